/-! ===== LEVEL 3: how long the way is ===== -/
theorem add_rc {x y z : Int32} : x + y + z = x + z + y := by
  rw [Int32.add_assoc, Int32.add_comm y z, ← Int32.add_assoc]
theorem wy_lp {a : Int32} {n : Nat} {P o : Nat → Nat} {d : Nat → Nat → Int32} {s : ev_M} {E : Int32} (hn : n ≤ 20) (ha : inb a 12 = true) (hG : Gq s a n P d) (ho : ∀ q, q < n → o q < n) (hR : ∀ q, q < n → s.1 (146 + ix a) q = cI (P (o q) : Int)) : ∀ (r m k : Nat), k + r = n → r < m → 1 ≤ k → fRounds_wayOf_h48 s m a (cI (n : Int)) (sp d n o k + E) (cI (k : Int)) = some (sp d n o n + E)
  | 0, m, k, hk, hm, _ => by
    obtain ⟨m, rfl⟩ : ∃ k, m = k + 1 := ⟨m - 1, by omega⟩
    have e : k = n := by omega
    subst e
    rw [fRounds_wayOf_h48, if_neg (by rw [k_lt (by omega) (by omega)]; omega)]
  | r + 1, m, k, hk, hm, h1 => by
    obtain ⟨m, rfl⟩ : ∃ k, m = k + 1 := ⟨m - 1, by omega⟩
    have lt : cI (k : Int) < cI (n : Int) := (k_lt (by omega) (by omega)).mpr (by omega)
    have ih := wy_lp (E := E) hn ha hG ho hR r m (k + 1) (by omega) (by omega) (by omega)
    obtain ⟨k, rfl⟩ : ∃ j, k = j + 1 := ⟨k - 1, by omega⟩
    rw [fRounds_wayOf_h48, if_pos lt, if_pos ha, k_m (by omega), if_pos (k_in (by omega) (by decide)), if_pos ha, if_pos (k_in (by omega) (by decide)), k_ix (by omega), k_ix (by omega), hR k (by omega), hR (k + 1) (by omega), (hG (o k) (ho k (by omega))).2 (o (k + 1)) (ho (k + 1) (by omega)), bd1_some, ltI_eq, k_s (by omega), add_rc]
    exact ih
theorem e_wayOf {a : Int32} {n : Nat} {P o : Nat → Nat} {d : Nat → Nat → Int32} {s : ev_M} (hn : n ≤ 20) (h0 : 0 < n) (ha : inb a 12 = true) (hc : ∀ q, q < n → d n q = d q n) (h3 : s.1 143 (ix a) = cI (n : Int)) (hG : Gq s a n P d) (ho : ∀ q, q < n → o q < n) (hR : ∀ q, q < n → s.1 (146 + ix a) q = cI (P (o q) : Int)) : fRounds_wayOf s a = some (sp d n o n + d (lst n o n) n) := by
  have w := wy_lp (E := d (lst n o n) n) hn ha hG ho hR (n - 1) 1048576 1 (by omega) (by omega) (Nat.le_refl _)
  unfold fRounds_wayOf
  generalize 1048576 = H at w ⊢
  obtain ⟨m, rfl⟩ : ∃ k, n = k + 1 := ⟨n - 1, by omega⟩
  have e3 : s.1 (140 + ix (cI 3)) (ix a) = cI ((m + 1 : Nat) : Int) := by rw [ix_3]; exact h3
  rw [if_pos ha, ltI_eq, e3, ix_0, if_neg (fun w => by rw [eq_i, k_ti (by omega), i32_0] at w; omega), if_pos ha, hR 0 (by omega), (hG (o 0) (ho 0 (by omega))).1, bd1_some, if_pos ha, k_m (by omega), if_pos (k_in (by omega) (by decide)), k_ix (by omega), hR m (by omega), (hG (o m) (ho m (by omega))).1, bd1_some, ltI_eq]
  have e : sp d (m + 1) o 1 = d (o 0) (m + 1) := by
    show cI 0 + d (m + 1) (o 0) = _
    rw [cI_0, Int32.zero_add, hc (o 0) (ho 0 (by omega))]
  rw [e] at w
  exact w
theorem wk_lst {d : Nat → Nat → Int32} {n : Nat} : ∀ p, (wk d n p).2 = lst n (wo d n) p
  | 0 => rfl
  | _ + 1 => rfl
theorem wv_sp {d : Nat → Nat → Int32} {n : Nat} (hn : n ≤ 8) (hd : Dn d n) : ∀ p, p ≤ n → wv d n (2 ^ n - 1) n = sp d n (wo d n) p + wv d n (wk d n p).1 (wk d n p).2
  | 0, _ => by
    show _ = cI 0 + wv d n (2 ^ n - 1) n
    rw [cI_0, Int32.zero_add]
  | p + 1, hp => by
    have h256 := bit_256 n (by omega)
    obtain ⟨a1, a2, a3, a4⟩ := wk_ok (d := d) hn p (by omega)
    obtain ⟨b1, b2, b3, b4⟩ := a4 (by omega)
    have nz : (wk d n p).1 ≠ 0 := fun z => by rw [z, cnt8_z] at a3; omega
    rw [wv_sp hn hd p (by omega), wv_s hn (by omega) nz, mnk_fam b1 (wg_b hn hd a1 a2 b3).2]
    show sp d n (wo d n) p + (d (wk d n p).2 (wo d n p) + wv d n ((wk d n p).1 - 2 ^ wo d n p) (wo d n p)) = sp d n (wo d n) p + d (lst n (wo d n) p) (wo d n p) + wv d n (wk d n (p + 1)).1 (wk d n (p + 1)).2
    rw [b2, wk_lst p, Int32.add_assoc]
    rfl
theorem wv_all {d : Nat → Nat → Int32} {n : Nat} (hn : n ≤ 8) (hd : Dn d n) : wv d n (2 ^ n - 1) n = sp d n (wo d n) n + d (lst n (wo d n) n) n := by
  have h256 := bit_256 n (by omega)
  obtain ⟨a1, a2, a3, -⟩ := wk_ok (d := d) hn n (Nat.le_refl _)
  have z := cnt8_0 _ (by omega) (show cnt8 (wk d n n).1 = 0 by omega)
  rw [wv_sp hn hd n (Nat.le_refl _), z, wv_0, wk_lst]
