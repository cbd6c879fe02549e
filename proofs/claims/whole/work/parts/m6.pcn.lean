/-! ===== LEVEL 3: the sheet: how many cells differ ===== -/
def dsN (x : Int32) : Nat → Int32
  | 0 => cI 0
  | j + 1 => dsN x j + ((x >>> (cI (j : Int) &&& 31)) &&& cI 1)
def pcN (X : Nat) : Nat :=
  let v1 := (4294967296 - ((X >>> 1) &&& 1431655765) + X) % 4294967296
  let v2 := ((v1 &&& 858993459) + ((v1 >>> 2) &&& 858993459)) % 4294967296
  let v3 := ((v2 + (v2 >>> 4)) % 4294967296) &&& 252645135
  let v4 := (v3 + (v3 >>> 8)) % 4294967296
  let v5 := (v4 + (v4 >>> 16)) % 4294967296
  v5 &&& 63
def dK (X : Nat) : Nat → Nat
  | 0 => 0
  | j + 1 => dK X j + (X >>> j) % 2
def dU (X : Nat) : Nat := 0 + (X >>> 0) % 2 + (X >>> 1) % 2 + (X >>> 2) % 2 + (X >>> 3) % 2 + (X >>> 4) % 2 + (X >>> 5) % 2 + (X >>> 6) % 2 + (X >>> 7) % 2 + (X >>> 8) % 2 + (X >>> 9) % 2 + (X >>> 10) % 2 + (X >>> 11) % 2 + (X >>> 12) % 2 + (X >>> 13) % 2 + (X >>> 14) % 2
theorem dU_eq (X : Nat) : dU X = dK X 15 := rfl
theorem pcN_t : ∀ a, a < 128 → ∀ b, b < 256 → Nat.beq (pcN (256 * a + b)) (dU (256 * a + b)) = true := by decide +kernel
theorem pcN_eq {X : Nat} (h : X < 32768) : pcN X = dK X 15 := by
  have := Nat.eq_of_beq_eq_true (pcN_t (X / 256) (by omega) (X % 256) (by omega))
  rw [show 256 * (X / 256) + X % 256 = X by omega] at this
  rw [this, dU_eq]
theorem dK_le {X : Nat} : ∀ j, dK X j ≤ j
  | 0 => Nat.le_refl _
  | j + 1 => by
    have := dK_le (X := X) j
    simp only [dK]
    omega
