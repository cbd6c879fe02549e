/-! ===== LEVEL 3: sets of at most eight as numbers; the least way ===== -/
theorem bit_q : ∀ m : Nat, m < 256 → ∀ k : Nat, k < 8 → (((cI (m : Int) >>> (cI (k : Int) &&& 31)) &&& cI 1 = 0) ↔ m.testBit k = false) := by decide +kernel
theorem bit_x : ∀ m : Nat, m < 256 → ∀ k : Nat, k < 8 → m.testBit k = true → (cI (m : Int) ^^^ (cI 1 <<< (cI (k : Int) &&& 31))) = cI ((m - 2 ^ k : Nat) : Int) ∧ 2 ^ k ≤ m := by decide +kernel
theorem bit_o : ∀ m : Nat, m < 256 → ∀ k : Nat, k < 8 → m.testBit k = false → (cI (m : Int) ||| (cI 1 <<< (cI (k : Int) &&& 31))) = cI ((m + 2 ^ k : Nat) : Int) ∧ m + 2 ^ k < 256 := by decide +kernel
theorem bit_nb : ((List.range 256).all fun m => (List.range 8).all fun k => (List.range 8).all fun j => !(m.testBit k) || !((m - 2 ^ k).testBit j) || (m.testBit j && !(j == k))) = true := by decide +kernel
theorem bit_n (m : Nat) (hm : m < 256) (k : Nat) (hk : k < 8) (j : Nat) (hj : j < 8) (h1 : m.testBit k = true) (h2 : (m - 2 ^ k).testBit j = true) : m.testBit j = true ∧ j ≠ k := by
  have w := List.all_eq_true.mp (List.all_eq_true.mp (List.all_eq_true.mp bit_nb m (List.mem_range.mpr hm)) k (List.mem_range.mpr hk)) j (List.mem_range.mpr hj)
  rw [h1, h2] at w
  simpa using w
theorem bit_f : ∀ n : Nat, n < 9 → cI 1 <<< (cI (n : Int) &&& 31) = cI ((2 ^ n : Nat) : Int) := by decide +kernel
theorem bit_f1 : ∀ n : Nat, n < 9 → (cI 1 <<< (cI (n : Int) &&& 31)) - cI 1 = cI ((2 ^ n - 1 : Nat) : Int) := by decide +kernel
theorem bit_1 : ∀ k : Nat, k < 8 → cI 1 <<< (cI (k : Int) &&& 31) = cI ((2 ^ k : Nat) : Int) := by decide +kernel
theorem bit_e : ∀ n : Nat, n < 9 → ∀ m : Nat, m < 2 ^ n → m ≠ 0 → ∃ j, j < n ∧ m.testBit j = true := by decide +kernel
theorem bit_c : ∀ n : Nat, n < 9 → ∀ m : Nat, m < 2 ^ n → ∀ j : Nat, j < n → (2 ^ n - 1 - m).testBit j = !(m.testBit j) := by decide +kernel
theorem bit_256 : ∀ n : Nat, n < 9 → 2 ^ n ≤ 256 := by decide +kernel
theorem bit_p : ∀ k : Nat, k < 8 → 1 ≤ 2 ^ k := by decide +kernel
def cnt8 (m : Nat) : Nat := ((List.range 8).filter (fun j => m.testBit j)).length
theorem cnt8_x : ∀ m : Nat, m < 256 → ∀ k : Nat, k < 8 → m.testBit k = true → cnt8 (m - 2 ^ k) + 1 = cnt8 m := by decide +kernel
theorem cnt8_0 : ∀ m : Nat, m < 256 → cnt8 m = 0 → m = 0 := by decide +kernel
theorem cnt8_f : ∀ n : Nat, n < 9 → cnt8 (2 ^ n - 1) = n := by decide +kernel
theorem cnt8_z : cnt8 0 = 0 := by decide +kernel
/-- the first of the least -/
def fam (g : Nat → Int32) (m : Nat → Bool) : Nat → Option Nat
  | 0 => none
  | c + 1 => if m c = true then (match fam g m c with | none => some c | some b => if g c < g b then some c else some b) else fam g m c
/-- the least, from a hundred million -/
def mnk (g : Nat → Int32) (m : Nat → Bool) : Nat → Int32
  | 0 => cI 100000000
  | c + 1 => if m c = true then (if g c < mnk g m c then g c else mnk g m c) else mnk g m c
theorem fam_no {g : Nat → Int32} {m : Nat → Bool} : ∀ {c : Nat}, fam g m c = none → ∀ j, j < c → m j = false
  | 0, _, j, hj => absurd hj (Nat.not_lt_zero _)
  | c + 1, h, j, hj => by
    unfold fam at h
    by_cases z : m c = true
    · rw [if_pos z] at h
      cases e : fam g m c with
      | none => rw [e] at h; exact absurd h (by simp)
      | some b =>
        rw [e] at h
        simp only at h
        split at h <;> exact absurd h (by simp)
    · rw [if_neg z] at h
      by_cases w : j = c
      · subst w; simpa using z
      · exact fam_no h j (by omega)
theorem fam_at {g : Nat → Int32} {m : Nat → Bool} : ∀ {c b : Nat}, fam g m c = some b → b < c ∧ m b = true ∧ (∀ j, j < c → m j = true → (g b).toInt ≤ (g j).toInt) ∧ (∀ j, j < b → m j = true → (g b).toInt < (g j).toInt)
  | 0, b, h => by exact absurd h (by simp [fam])
  | c + 1, b, h => by
    unfold fam at h
    by_cases z : m c = true
    · rw [if_pos z] at h
      cases e : fam g m c with
      | none =>
        rw [e] at h
        simp only [Option.some.injEq] at h
        subst h
        have no := fam_no e
        refine ⟨by omega, z, fun j hj mj => ?_, fun j hj mj => absurd mj (by rw [no j hj]; decide)⟩
        by_cases w : j = c
        · subst w; exact Int.le_refl _
        · exact absurd mj (by rw [no j (by omega)]; decide)
      | some b' =>
        rw [e] at h
        simp only at h
        obtain ⟨q1, q2, q3, q4⟩ := fam_at e
        by_cases w : g c < g b'
        · rw [if_pos w] at h
          simp only [Option.some.injEq] at h
          subst h
          rw [lt_i] at w
          refine ⟨by omega, z, fun j hj mj => ?_, fun j hj mj => ?_⟩
          · by_cases v : j = c
            · subst v; exact Int.le_refl _
            · have := q3 j (by omega) mj; omega
          · have := q3 j hj mj; omega
        · rw [if_neg w] at h
          simp only [Option.some.injEq] at h
          subst h
          rw [lt_i] at w
          refine ⟨by omega, q2, fun j hj mj => ?_, q4⟩
          by_cases v : j = c
          · subst v; omega
          · exact q3 j (by omega) mj
    · rw [if_neg z] at h
      obtain ⟨q1, q2, q3, q4⟩ := fam_at h
      refine ⟨by omega, q2, fun j hj mj => ?_, q4⟩
      by_cases v : j = c
      · subst v; exact absurd mj z
      · exact q3 j (by omega) mj
theorem fam_some {g : Nat → Int32} {m : Nat → Bool} {c j : Nat} (hj : j < c) (mj : m j = true) : ∃ b, fam g m c = some b := by
  cases e : fam g m c with
  | none => exact absurd mj (by rw [fam_no e j hj]; decide)
  | some b => exact ⟨b, rfl⟩
theorem mnk_le {g : Nat → Int32} {m : Nat → Bool} : ∀ {c j : Nat}, j < c → m j = true → (mnk g m c).toInt ≤ (g j).toInt
  | 0, j, h, _ => absurd h (Nat.not_lt_zero _)
  | c + 1, j, h, mj => by
    unfold mnk
    by_cases z : m c = true
    · rw [if_pos z]
      by_cases w : g c < mnk g m c
      · rw [if_pos w]
        rw [lt_i] at w
        by_cases v : j = c
        · subst v; exact Int.le_refl _
        · have := mnk_le (g := g) (m := m) (c := c) (j := j) (by omega) mj; omega
      · rw [if_neg w]
        rw [lt_i] at w
        by_cases v : j = c
        · subst v; omega
        · exact mnk_le (by omega) mj
    · rw [if_neg z]
      exact mnk_le (by
        by_cases v : j = c
        · subst v; exact absurd mj z
        · omega) mj
theorem mnk_or {g : Nat → Int32} {m : Nat → Bool} : ∀ {c : Nat}, mnk g m c = cI 100000000 ∨ ∃ j, j < c ∧ m j = true ∧ mnk g m c = g j
  | 0 => Or.inl rfl
  | c + 1 => by
    unfold mnk
    by_cases z : m c = true
    · rw [if_pos z]
      by_cases w : g c < mnk g m c
      · rw [if_pos w]; exact Or.inr ⟨c, by omega, z, rfl⟩
      · rw [if_neg w]
        rcases mnk_or (g := g) (m := m) (c := c) with h | ⟨j, h1, h2, h3⟩
        · exact Or.inl h
        · exact Or.inr ⟨j, by omega, h2, h3⟩
    · rw [if_neg z]
      rcases mnk_or (g := g) (m := m) (c := c) with h | ⟨j, h1, h2, h3⟩
      · exact Or.inl h
      · exact Or.inr ⟨j, by omega, h2, h3⟩
theorem mnk_fam {g : Nat → Int32} {m : Nat → Bool} {c b : Nat} (h : fam g m c = some b) (hb : (g b).toInt < 100000000) : mnk g m c = g b := by
  obtain ⟨q1, q2, q3, q4⟩ := fam_at h
  have l := mnk_le (g := g) q1 q2
  rcases mnk_or (g := g) (m := m) (c := c) with e | ⟨j, h1, h2, h3⟩
  · rw [e, show (cI 100000000).toInt = 100000000 from rfl] at l; omega
  · have := q3 j h1 h2
    rw [h3] at l
    rw [h3, eq_i]; omega
theorem mnk_cg {g g' : Nat → Int32} {m : Nat → Bool} : ∀ {c : Nat}, (∀ j, j < c → m j = true → g j = g' j) → mnk g m c = mnk g' m c
  | 0, _ => rfl
  | c + 1, h => by
    have ih := mnk_cg (c := c) (g := g) (g' := g') (m := m) (fun j hj => h j (by omega))
    unfold mnk
    by_cases z : m c = true
    · rw [if_pos z, if_pos z, ih, h c (by omega) z]
    · rw [if_neg z, if_neg z, ih]
theorem mnk_mg {g : Nat → Int32} {m m' : Nat → Bool} : ∀ {c : Nat}, (∀ j, j < c → m j = m' j) → mnk g m c = mnk g m' c
  | 0, _ => rfl
  | c + 1, h => by
    have ih := mnk_mg (c := c) (g := g) (m := m) (m' := m') (fun j hj => h j (by omega))
    unfold mnk
    rw [ih, h c (by omega)]
theorem fam_cg {g g' : Nat → Int32} {m : Nat → Bool} : ∀ {c : Nat}, (∀ j, j < c → m j = true → g j = g' j) → fam g m c = fam g' m c
  | 0, _ => rfl
  | c + 1, h => by
    have ih := fam_cg (c := c) (g := g) (g' := g') (m := m) (fun j hj => h j (by omega))
    unfold fam
    by_cases z : m c = true
    · rw [if_pos z, if_pos z, ih]
      cases e : fam g' m c with
      | none => rfl
      | some b =>
        obtain ⟨q1, q2, -⟩ := fam_at e
        simp only
        rw [h c (by omega) z, h b (by omega) q2]
    · rw [if_neg z, if_neg z, ih]
/-- the least way from last through all of rem to the end -/
def wvF (d : Nat → Nat → Int32) (n : Nat) : Nat → Nat → Nat → Int32
  | 0, _, last => d last n
  | f + 1, rem, last => if rem = 0 then d last n else mnk (fun k => d last k + wvF d n f (rem - 2 ^ k) k) (fun k => rem.testBit k) n
def wv (d : Nat → Nat → Int32) (n rem last : Nat) : Int32 := wvF d n 256 rem last
def wg (d : Nat → Nat → Int32) (n rem last k : Nat) : Int32 := d last k + wv d n (rem - 2 ^ k) k
theorem wvF_eq {d : Nat → Nat → Int32} {n : Nat} (hn : n ≤ 8) : ∀ {f f' rem last : Nat}, rem < 256 → rem ≤ f → rem ≤ f' → wvF d n f rem last = wvF d n f' rem last
  | 0, f', rem, last, _, h, _ => by
    have e : rem = 0 := by omega
    subst e
    cases f' with
    | zero => rfl
    | succ k => simp only [wvF, if_true]
  | f + 1, 0, rem, last, _, _, h => by
    have e : rem = 0 := by omega
    subst e
    simp only [wvF, if_true]
  | f + 1, f' + 1, rem, last, hr, h, h' => by
    unfold wvF
    by_cases z : rem = 0
    · rw [if_pos z, if_pos z]
    · rw [if_neg z, if_neg z]
      refine mnk_cg (fun j hj mj => ?_)
      have b := (bit_x rem hr j (by omega) mj).2
      have p := bit_p j (by omega)
      show _ + _ = _ + _
      rw [wvF_eq hn (f := f) (f' := f') (rem := rem - 2 ^ j) (last := j) (by omega) (by omega) (by omega)]
theorem wv_0 {d : Nat → Nat → Int32} {n last : Nat} : wv d n 0 last = d last n := by
  unfold wv wvF
  rw [if_pos rfl]
theorem wv_s {d : Nat → Nat → Int32} {n rem last : Nat} (hn : n ≤ 8) (hr : rem < 256) (h0 : rem ≠ 0) : wv d n rem last = mnk (wg d n rem last) (fun k => rem.testBit k) n := by
  have e : wv d n rem last = mnk (fun k => d last k + wvF d n 255 (rem - 2 ^ k) k) (fun k => rem.testBit k) n := by
    exact if_neg h0
  rw [e]
  refine mnk_cg (fun j hj mj => ?_)
  have b := (bit_x rem hr j (by omega) mj).2
  have p := bit_p j (by omega)
  show _ + _ = _ + _
  unfold wv
  rw [wvF_eq hn (f := 255) (f' := 256) (rem := rem - 2 ^ j) (last := j) (by omega) (by omega) (by omega)]
/-- ways of at most 8000 -/
def Dn (d : Nat → Nat → Int32) (n : Nat) : Prop := ∀ i j, i ≤ n → j ≤ n → 0 ≤ (d i j).toInt ∧ (d i j).toInt ≤ 8000
theorem wv_b {d : Nat → Nat → Int32} {n : Nat} (hn : n ≤ 8) (hd : Dn d n) : ∀ {rem last : Nat}, rem < 2 ^ n → last ≤ n → 0 ≤ (wv d n rem last).toInt ∧ (wv d n rem last).toInt ≤ 8000 * ((rem : Int) + 1) := by
  intro rem
  induction rem using Nat.strongRecOn with
  | ind rem ih =>
    intro last hr hl
    have h256 := bit_256 n (by omega)
    by_cases z : rem = 0
    · subst z
      rw [wv_0]
      have := hd last n hl (Nat.le_refl _)
      omega
    · obtain ⟨j, hj, mj⟩ := bit_e n (by omega) rem hr z
      obtain ⟨b, hb⟩ := fam_some (g := wg d n rem last) (m := fun k => rem.testBit k) hj mj
      obtain ⟨q1, q2, -, -⟩ := fam_at hb
      have bx := (bit_x rem (by omega) b (by omega) q2).2
      have p := bit_p b (by omega)
      obtain ⟨w1, w2⟩ := ih (rem - 2 ^ b) (by omega) (last := b) (by omega) (by omega)
      obtain ⟨d1, d2⟩ := hd last b hl (by omega)
      have e : (wg d n rem last b).toInt = (d last b).toInt + (wv d n (rem - 2 ^ b) b).toInt := add_b (by omega) (by omega)
      rw [wv_s hn (by omega) z, mnk_fam hb (by omega), e]
      omega
theorem wg_b {d : Nat → Nat → Int32} {n rem last k : Nat} (hn : n ≤ 8) (hd : Dn d n) (hr : rem < 2 ^ n) (hl : last ≤ n) (hk : k < n) : 0 ≤ (wg d n rem last k).toInt ∧ (wg d n rem last k).toInt < 100000000 := by
  have h256 := bit_256 n (by omega)
  obtain ⟨m, em⟩ : ∃ m, m = rem - 2 ^ k := ⟨_, rfl⟩
  have hm : m ≤ rem := by rw [em]; exact Nat.sub_le _ _
  have hp := bit_256 n (by omega)
  obtain ⟨w1, w2⟩ := wv_b hn hd (rem := m) (last := k) (Nat.lt_of_le_of_lt hm hr) (by omega)
  have hm2 : m < 256 := by omega
  rw [em] at w1 w2 hm2
  obtain ⟨d1, d2⟩ := hd last k hl (by omega)
  have e : (wg d n rem last k).toInt = (d last k).toInt + (wv d n (rem - 2 ^ k) k).toInt := add_b (by omega) (by omega)
  omega
