/-! ===== LEVEL 3: numbers and small answers ===== -/
theorem i32_0 : (0 : Int32).toInt = 0 := rfl
theorem i32_1 : (1 : Int32).toInt = 1 := rfl
theorem lt_i {x y : Int32} : x < y ↔ x.toInt < y.toInt := Int32.lt_iff_toInt_lt
theorem le_i {x y : Int32} : x ≤ y ↔ x.toInt ≤ y.toInt := Int32.le_iff_toInt_le
theorem eq_i {x y : Int32} : x = y ↔ x.toInt = y.toInt := Int32.toInt_inj.symm
theorem cI_0 : cI 0 = 0 := rfl
theorem cI_1 : cI 1 = 1 := rfl
def bI (p : Prop) [Decidable p] : Int32 := if p then 1 else 0
theorem ite_bI {α : Sort _} {p : Prop} [Decidable p] {x y : α} : (if bI p = 0 then x else y) = if p then y else x := by
  by_cases h : p <;> simp [bI, h]
theorem bz_bI {p : Prop} [Decidable p] : bz (bI p) = true := by
  by_cases h : p <;> simp [bI, h, bz]
theorem bI_t {p : Prop} [Decidable p] (h : p) : bI p = 1 := if_pos h
theorem bI_f {p : Prop} [Decidable p] (h : ¬ p) : bI p = 0 := if_neg h
theorem bI_congr {p q : Prop} [Decidable p] [Decidable q] (h : p ↔ q) : bI p = bI q := by
  by_cases hp : p
  · rw [bI_t hp, bI_t (h.mp hp)]
  · rw [bI_f hp, bI_f (fun z => hp (h.mpr z))]
abbrev Has (a n : Int32) : Prop := 0 ≤ a.toInt ∧ a.toInt < n.toInt
abbrev InR (a lo hi : Int32) : Prop := lo.toInt ≤ a.toInt ∧ a.toInt ≤ hi.toInt
theorem Has.inb {a n : Int32} {N : Nat} (h : Has a n) (hn : n.toInt ≤ N) : inb a N = true := inb_iff.mpr ⟨h.1, by omega⟩
theorem Has.ix {a n : Int32} (h : Has a n) : ix a < ix n := by
  rw [ix_toNat, ix_toNat]; omega
theorem outside_eq {s : ev_M} {a lo hi : Int32} : fPH_outside s a lo hi = some (bI (¬ InR a lo hi)) := by
  unfold fPH_outside fPH_outside_b10 bI
  simp only [lt_i, le_i, cI_0, cI_1]
  by_cases h1 : a.toInt < lo.toInt
  · rw [if_pos h1, if_pos (by omega)]
  · by_cases h2 : a.toInt ≤ hi.toInt
    · rw [if_neg h1, if_pos h2, if_neg (by omega)]
    · rw [if_neg h1, if_neg h2, if_pos (by omega)]
theorem in_eq {s : ev_M} {a lo hi : Int32} : fM_in s a lo hi = some (bI (InR a lo hi)) := by
  unfold fM_in bI
  simp only [lt_i, le_i, cI_0, cI_1]
  by_cases h1 : a.toInt < lo.toInt
  · rw [if_pos h1, if_neg (by omega)]
  · by_cases h2 : a.toInt ≤ hi.toInt
    · rw [if_neg h1, if_pos h2, if_pos (by omega)]
    · rw [if_neg h1, if_neg h2, if_neg (by omega)]
theorem inr_has {a n : Int32} (h : 0 ≤ n.toInt) : InR a (cI 0) (n - cI 1) ↔ Has a n := by
  show _ ∧ _ ↔ _ ∧ _
  rw [cI_0, cI_1, sub_toInt (by rw [i32_1]; omega) (by have := toInt_hi n; rw [i32_1]; omega), i32_0, i32_1]
  omega
theorem out_has {s : ev_M} {a n : Int32} (h : 0 ≤ n.toInt) : (bd1 (fPH_outside s a (cI 0) (n - cI 1)) fun v1 => if v1 = 0 then some (cI 1) else some (cI 0)) = some (bI (Has a n)) := by
  rw [outside_eq, bd1_some, ite_bI]
  by_cases h1 : Has a n
  · rw [if_neg (fun z => z ((inr_has h).mpr h1)), bI_t h1]; rfl
  · rw [if_pos (fun z => h1 ((inr_has h).mp z)), bI_f h1]; rfl
theorem e_itemsHas {s : ev_M} {a : Int32} (h : 0 ≤ (s.1 100 5).toInt) : fItems_has s a = some (bI (Has a (s.1 100 5))) := out_has h
theorem e_hasPoint {s : ev_M} {a : Int32} (h : 0 ≤ (s.1 30 9).toInt) : fBook_hasPoint s a = some (bI (Has a (s.1 30 9))) := out_has h
theorem e_hasPlace {s : ev_M} {a : Int32} (h : 0 ≤ (s.1 30 2).toInt) : fBook_hasPlace s a = some (bI (Has a (s.1 30 2))) := out_has h
theorem in_has {s : ev_M} {a n : Int32} (h : 0 ≤ n.toInt) : (bd1 (fM_in s a (cI 0) (n - cI 1)) fun v1 => if bz v1 = true then some v1 else none) = some (bI (Has a n)) := by
  rw [in_eq, bd1_some, if_pos bz_bI, bI_congr (inr_has h)]
theorem e_isItem {s : ev_M} {a : Int32} (h : 0 ≤ (s.1 549 58).toInt) : fM_isItem s a = some (bI (Has a (s.1 549 58))) := in_has h
theorem e_isPoint {s : ev_M} {a : Int32} (h : 0 ≤ (s.1 549 38).toInt) : fM_isPoint s a = some (bI (Has a (s.1 549 38))) := in_has h
theorem e_isPlace {s : ev_M} {a : Int32} (h : 0 ≤ (s.1 549 24).toInt) : fM_isPlace s a = some (bI (Has a (s.1 549 24))) := in_has h
theorem e_isRound {s : ev_M} {a : Int32} (h : 0 ≤ (s.1 549 87).toInt) : fM_isRound s a = some (bI (Has a (s.1 549 87))) := in_has h
theorem e_isBag {s : ev_M} {a : Int32} (h : 0 ≤ (s.1 549 101).toInt) : fM_isBag s a = some (bI (Has a (s.1 549 101))) := in_has h
theorem e_isLocker {s : ev_M} {a : Int32} (h : 0 ≤ (s.1 549 107).toInt) : fM_isLocker s a = some (bI (Has a (s.1 549 107))) := in_has h
theorem e_lockHas {s : ev_M} {a : Int32} (h : 0 ≤ (s.1 125 3).toInt) : fLock_has s a = some (bI (Has a (s.1 125 3))) := out_has h
theorem e_linesHas {s : ev_M} {a : Int32} (h : 0 ≤ (s.1 449 4).toInt) : fLines_has s a = some (bI (Has a (s.1 449 4))) := out_has h
theorem e_hasBag {s : ev_M} {a : Int32} (h : 0 ≤ (s.1 449 6).toInt) : fLines_hasBag s a = some (bI (Has a (s.1 449 6))) := out_has h
theorem e_roundsHas {s : ev_M} {a : Int32} (h : 0 ≤ (s.1 138 3).toInt) : fRounds_has s a = some (bI (Has a (s.1 138 3))) := out_has h
theorem e_hasOrder {s : ev_M} {a : Int32} (h : 0 ≤ (s.1 78 8).toInt) : fMoney_hasOrder s a = some (bI (Has a (s.1 78 8))) := out_has h
/-- a customer's account, of n customers -/
abbrev Cus (a n : Int32) : Prop := 4 ≤ a.toInt ∧ a.toInt < 4 + n.toInt
theorem c4_add {n : Int32} (h : 0 ≤ n.toInt) (h2 : n.toInt ≤ 30) : ((cI 4 + n) - cI 1).toInt = 3 + n.toInt := by
  have e4 : (cI 4).toInt = 4 := rfl
  have e1 : (cI 1).toInt = 1 := rfl
  have e : (cI 4 + n).toInt = 4 + n.toInt := by rw [add_toInt (by omega) (by omega), e4]
  rw [sub_toInt (by omega) (by omega), e, e1]; omega
theorem e_moneyHas {s : ev_M} {a : Int32} (h : 0 ≤ (s.1 78 3).toInt) (h2 : (s.1 78 3).toInt ≤ 30) : fMoney_has s a = some (bI (0 ≤ a.toInt ∧ a.toInt < 4 + (s.1 78 3).toInt)) := by
  unfold fMoney_has
  rw [outside_eq, bd1_some, ite_bI]
  have e := c4_add h h2
  have e0 : (cI 0).toInt = 0 := rfl
  by_cases h1 : 0 ≤ a.toInt ∧ a.toInt < 4 + (s.1 78 3).toInt
  · rw [if_neg (fun z => z ⟨by omega, by omega⟩), bI_t h1]; rfl
  · rw [if_pos (fun z => h1 ⟨by have := z.1; omega, by have := z.2; omega⟩), bI_f h1]; rfl
theorem e_isCus {s : ev_M} {a : Int32} (h : 0 ≤ (s.1 78 3).toInt) (h2 : (s.1 78 3).toInt ≤ 30) : fMoney_isCustomer s a = some (bI (Cus a (s.1 78 3))) := by
  unfold fMoney_isCustomer
  rw [e_moneyHas h h2, bd1_some, ite_bI]
  have e4 : (cI 4).toInt = 4 := rfl
  by_cases h1 : a < cI 4
  · have h9 := lt_i.mp h1
    rw [if_pos h1, bI_f (fun z => by have := z.1; omega)]; rfl
  · have h9 : ¬ a.toInt < (cI 4).toInt := fun z => h1 (lt_i.mpr z)
    rw [if_neg h1]
    by_cases h3 : 0 ≤ a.toInt ∧ a.toInt < 4 + (s.1 78 3).toInt
    · rw [if_pos h3, bI_t ⟨by omega, h3.2⟩]; rfl
    · rw [if_neg h3, bI_f (fun z => h3 ⟨by omega, z.2⟩)]; rfl
theorem e_isCusM {s : ev_M} {a : Int32} (h : 0 ≤ (s.1 549 111).toInt) (h2 : (s.1 549 111).toInt ≤ 30) : fM_isCustomer s a = some (bI (Cus a (s.1 549 111))) := by
  unfold fM_isCustomer
  rw [in_eq, bd1_some, if_pos bz_bI]
  have e := c4_add h h2
  have e4 : (cI 4).toInt = 4 := rfl
  rw [bI_congr (q := Cus a (s.1 549 111)) ⟨fun z => ⟨by have := z.1; omega, by have := z.2; omega⟩, fun z => ⟨by have := z.1; omega, by have := z.2; omega⟩⟩]
theorem inc_i {x : Int32} (h : x.toInt < 2147483647) : (x + cI 1).toInt = x.toInt + 1 := by
  have := toInt_lo x
  rw [add_toInt (by rw [show (cI 1).toInt = 1 from rfl]; omega) (by rw [show (cI 1).toInt = 1 from rfl]; omega)]; rfl
theorem dec_i {x : Int32} (h : -2147483648 < x.toInt) : (x + cI (-1)).toInt = x.toInt - 1 := by
  have := toInt_hi x
  rw [add_toInt (by rw [show (cI (-1)).toInt = -1 from rfl]; omega) (by rw [show (cI (-1)).toInt = -1 from rfl]; omega)]; rfl
theorem ix_inc {x : Int32} (h0 : 0 ≤ x.toInt) (h : x.toInt < 2147483647) : ix (x + cI 1) = ix x + 1 := by
  rw [ix_toNat, ix_toNat, inc_i h]; omega
theorem no_eq {s : ev_M} {c : Int32} : fM_no s c = some (wI s 549 15 (cI 1), c) := rfl
/-- the places from lo to before hi of a cell are as f says -/
def wR (s : ev_M) (c lo hi : Nat) (f : Nat → Int32) : ev_M := (fun a b => if a = c ∧ lo ≤ b ∧ b < hi then f b else s.1 a b, s.2)
theorem wR_1 (s : ev_M) (c lo hi : Nat) (f : Nat → Int32) (a b : Nat) : (wR s c lo hi f).1 a b = if a = c ∧ lo ≤ b ∧ b < hi then f b else s.1 a b := rfl
theorem wR_ne {s : ev_M} {c lo hi : Nat} {f : Nat → Int32} {a : Nat} (h : a ≠ c) : (wR s c lo hi f).1 a = s.1 a := by
  funext b; rw [wR_1, if_neg (fun z => h z.1)]
theorem wR_2 (s : ev_M) (c lo hi : Nat) (f : Nat → Int32) : (wR s c lo hi f).2 = s.2 := rfl
theorem wR_end (s : ev_M) (c hi : Nat) (f : Nat → Int32) : wR s c hi hi f = s := by
  refine Prod.ext (funext fun a => funext fun b => ?_) rfl
  rw [wR_1, if_neg (fun z => by omega)]
theorem wR_step {s : ev_M} {c k hi : Nat} {f : Nat → Int32} (h : k < hi) : wR (wI s c k (f k)) c (k + 1) hi f = wR s c k hi f := by
  refine Prod.ext (funext fun a => funext fun b => ?_) rfl
  rw [wR_1, wR_1, wI_1]
  by_cases h1 : a = c
  · by_cases h2 : b = k
    · rw [if_neg (fun z => by omega), if_pos h1, if_pos h2, if_pos ⟨h1, by omega, by omega⟩, h2]
    · by_cases h3 : k ≤ b ∧ b < hi
      · rw [if_pos ⟨h1, by omega, h3.2⟩, if_pos ⟨h1, h3.1, h3.2⟩]
      · rw [if_neg (fun z => h3 ⟨by omega, z.2.2⟩), if_pos h1, if_neg h2, if_neg (fun z => h3 z.2)]
  · rw [if_neg (fun z => h1 z.1), if_neg h1, if_neg (fun z => h1 z.1)]
/-- a loop that writes f to the places off + x, x from where it stands to before N, and then goes on with K -/
theorem fill_gen {α : Type} (H : Nat → ev_M → Int32 → Option α) (c off N : Nat) (f : Nat → Int32) (K : ev_M → Option α) (P : ev_M → Prop) (hN : N < 2147483647)
    (hs : ∀ (n : Nat) (s : ev_M) (x : Int32), P s → 0 ≤ x.toInt → x.toInt < N → H (n + 1) s x = H n (wI s c (off + ix x) (f (off + ix x))) (x + cI 1))
    (he : ∀ (n : Nat) (s : ev_M) (x : Int32), P s → x.toInt = N → H (n + 1) s x = K s) (hP : ∀ (s : ev_M) (k : Nat) (v : Int32), P s → P (wI s c k v)) :
    ∀ (n : Nat) (s : ev_M) (x : Int32), P s → 0 ≤ x.toInt → x.toInt ≤ N → N - x.toInt < n → H n s x = K (wR s c (off + ix x) (off + N) f) := by
  intro n
  induction n with
  | zero => intro s x _ h1 h2 h3; omega
  | succ n ih =>
    intro s x hp h1 h2 h3
    by_cases h4 : x.toInt < N
    · rw [hs n s x hp h1 h4, ih _ _ (hP _ _ _ hp) (by rw [inc_i (by omega)]; omega) (by rw [inc_i (by omega)]; omega) (by rw [inc_i (by omega)]; omega), ix_inc h1 (by omega)]
      have e := wR_step (s := s) (c := c) (k := off + ix x) (hi := off + N) (f := f) (by rw [ix_toNat]; omega)
      rw [← Nat.add_assoc, e]
    · have e : x.toInt = N := by omega
      rw [he n s x hp e, show off + ix x = off + N by rw [ix_toNat]; omega, wR_end]
