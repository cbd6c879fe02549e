/-! ===== LEVEL 3: basics: answers, numbers, cells ===== -/
/-- it answers, and the answer is as said -/
def Ok {α : Type} (o : Option α) (Q : α → Prop) : Prop := ∃ x, o = some x ∧ Q x
section
variable {α β γ : Type}
theorem ok_some {x : α} {Q : α → Prop} : Ok (some x) Q ↔ Q x := ⟨fun ⟨y, h, q⟩ => by cases h; exact q, fun q => ⟨x, rfl, q⟩⟩
theorem ok_none {Q : α → Prop} : Ok none Q ↔ False := ⟨fun ⟨y, h, q⟩ => (by cases h), fun h => h.elim⟩
theorem ok_ite {c : Prop} [Decidable c] {a b : Option α} {Q : α → Prop} : Ok (if c then a else b) Q ↔ if c then Ok a Q else Ok b Q := by
  by_cases h : c <;> simp [h]
theorem ok_ltM {v : ev_M} {B : ev_M → Option α} {Q : α → Prop} : Ok (ltM v B) Q ↔ Ok (B v) Q := Iff.rfl
theorem ok_ltI {v : Int32} {B : Int32 → Option α} {Q : α → Prop} : Ok (ltI v B) Q ↔ Ok (B v) Q := Iff.rfl
theorem ok_ltL {v : Int64} {B : Int64 → Option α} {Q : α → Prop} : Ok (ltL v B) Q ↔ Ok (B v) Q := Iff.rfl
theorem ok_bd1 {o : Option β} {B : β → Option α} {Q : α → Prop} : Ok (bd1 o B) Q ↔ Ok o (fun x => Ok (B x) Q) := by
  cases o with
  | none => exact ⟨fun ⟨y, h, q⟩ => (by cases h), fun ⟨y, h, q⟩ => (by cases h)⟩
  | some x => exact (ok_some (Q := fun x => Ok (B x) Q)).symm
theorem ok_bd2 {o : Option (β × γ)} {B : β → γ → Option α} {Q : α → Prop} : Ok (bd2 o B) Q ↔ Ok o (fun x : β × γ => Ok (B x.1 x.2) Q) := by
  cases o with
  | none => exact ⟨fun ⟨y, h, q⟩ => (by cases h), fun ⟨y, h, q⟩ => (by cases h)⟩
  | some x => exact (ok_some (Q := fun x : β × γ => Ok (B x.1 x.2) Q)).symm
theorem Ok.mono {o : Option α} {P Q : α → Prop} (h : Ok o P) (hq : ∀ x, P x → Q x) : Ok o Q := by
  obtain ⟨x, e, p⟩ := h
  exact ⟨x, e, hq x p⟩
theorem Ok.bd1 {o : Option β} {B : β → Option α} {P : β → Prop} {Q : α → Prop} (h : Ok o P) (hq : ∀ x, P x → Ok (B x) Q) : Ok (bd1 o B) Q := ok_bd1.mpr (h.mono hq)
theorem Ok.bd2 {o : Option (β × γ)} {B : β → γ → Option α} {P : β × γ → Prop} {Q : α → Prop} (h : Ok o P) (hq : ∀ x, P x → Ok (B x.1 x.2) Q) : Ok (bd2 o B) Q := ok_bd2.mpr (h.mono hq)
theorem bd1_some {x : β} {B : β → Option α} : bd1 (some x) B = B x := rfl
theorem bd2_some {x : β × γ} {B : β → γ → Option α} : bd2 (some x) B = B x.1 x.2 := rfl
theorem ltM_eq {v : ev_M} {B : ev_M → Option α} : ltM v B = B v := rfl
theorem ltI_eq {v : Int32} {B : Int32 → Option α} : ltI v B = B v := rfl
theorem ltL_eq {v : Int64} {B : Int64 → Option α} : ltL v B = B v := rfl
end
theorem inb_iff {j : Int32} {n : Nat} : inb j n = true ↔ 0 ≤ j.toInt ∧ j.toInt < n := by
  unfold inb
  rw [Bool.and_eq_true, Bool.not_eq_true', decide_eq_false_iff_not, decide_eq_true_iff, Int32.lt_iff_toInt_lt]
  show ¬ j.toInt < 0 ∧ j.toInt.toNat < n ↔ _
  omega
theorem ix_toNat (j : Int32) : ix j = j.toInt.toNat := rfl
theorem ix_int {j : Int32} (h : 0 ≤ j.toInt) : (ix j : Int) = j.toInt := by
  rw [ix_toNat]; omega
theorem cI_toInt {z : Int} (h1 : -2147483648 ≤ z) (h2 : z < 2147483648) : (cI z).toInt = z := Int32.toInt_ofInt_of_le h1 h2
theorem toInt_lo (x : Int32) : -2147483648 ≤ x.toInt := Int32.le_toInt x
theorem toInt_hi (x : Int32) : x.toInt < 2147483648 := Int32.toInt_lt x
theorem of_toInt (x : Int32) : cI x.toInt = x := Int32.ofInt_toInt x
theorem ix_cI {z : Int} (h1 : 0 ≤ z) (h2 : z < 2147483648) : ix (cI z) = z.toNat := by
  rw [ix_toNat, cI_toInt (by omega) h2]
theorem add_toInt {x y : Int32} (h1 : -2147483648 ≤ x.toInt + y.toInt) (h2 : x.toInt + y.toInt < 2147483648) : (x + y).toInt = x.toInt + y.toInt := by
  rw [Int32.toInt_add, Int.bmod_def]; split <;> omega
theorem sub_toInt {x y : Int32} (h1 : -2147483648 ≤ x.toInt - y.toInt) (h2 : x.toInt - y.toInt < 2147483648) : (x - y).toInt = x.toInt - y.toInt := by
  rw [Int32.toInt_sub, Int.bmod_def]; split <;> omega
theorem mul_toInt {x y : Int32} (h1 : -2147483648 ≤ x.toInt * y.toInt) (h2 : x.toInt * y.toInt < 2147483648) : (x * y).toInt = x.toInt * y.toInt := by
  rw [Int32.toInt_mul, Int.bmod_def]; split <;> omega
theorem wI_1 (s : ev_M) (c k : Nat) (x : Int32) (a b : Nat) : (wI s c k x).1 a b = if a = c then (if b = k then x else s.1 a b) else s.1 a b := rfl
theorem wI_ne {s : ev_M} {c k : Nat} {x : Int32} {a : Nat} (h : a ≠ c) : (wI s c k x).1 a = s.1 a := by
  funext b; rw [wI_1, if_neg h]
theorem wI_2 (s : ev_M) (c k : Nat) (x : Int32) : (wI s c k x).2 = s.2 := rfl
theorem wL_1 (s : ev_M) (c k : Nat) (x : Int64) : (wL s c k x).1 = s.1 := rfl
theorem wL_21 (s : ev_M) (c k : Nat) (x : Int64) (a b : Nat) : (wL s c k x).2.1 a b = if a = c then (if b = k then x else s.2.1 a b) else s.2.1 a b := rfl
