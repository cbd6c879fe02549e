/-! ===== LEVEL 3: a block made ready: class and reference ===== -/
theorem fill_nat {α : Type} (H : Nat → ev_M → Int32 → Option α) (c off N : Nat) (f : Nat → Int32) (K : ev_M → Option α) (P : ev_M → Prop)
    (hs : ∀ (n : Nat) (s : ev_M) (i : Nat), P s → i < N → H (n + 1) s (cI (i : Int)) = H n (wI s c (off + i) (f (off + i))) (cI ((i + 1 : Nat) : Int)))
    (he : ∀ (n : Nat) (s : ev_M), P s → H (n + 1) s (cI (N : Int)) = K s) (hP : ∀ (s : ev_M) (k : Nat) (v : Int32), P s → P (wI s c k v)) :
    ∀ (r n i : Nat) (s : ev_M), P s → i + r = N → r < n → H n s (cI (i : Int)) = K (wR s c (off + i) (off + N) f) := by
  intro r
  induction r with
  | zero =>
    intro n i s hp hi hn
    obtain ⟨n, rfl⟩ : ∃ k, n = k + 1 := ⟨n - 1, by omega⟩
    obtain rfl : i = N := by omega
    rw [he n s hp, wR_end]
  | succ r ih =>
    intro n i s hp hi hn
    obtain ⟨n, rfl⟩ : ∃ k, n = k + 1 := ⟨n - 1, by omega⟩
    rw [hs n s i hp (by omega), ih n (i + 1) _ (hP _ _ _ hp) (by omega) (by omega)]
    have e := wR_step (s := s) (c := c) (k := off + i) (hi := off + N) (f := f) (by omega)
    rw [← Nat.add_assoc, e]
section
variable {s t : ev_M}
theorem sum12 : fLog_sumOf_12 s (cI 0) = some (fdS (s.1 12) 0 252) := by
  have key : ∀ (r m i : Nat), i + r = 252 → r < m → fLog_sumOf_12_h4 s m (cI 0) (fdS (s.1 12) 0 i) (cI (i : Int)) = some (fdS (s.1 12) 0 252) := by
    intro r
    induction r with
    | zero =>
      intro m i hi hm
      obtain ⟨m, rfl⟩ : ∃ k, m = k + 1 := ⟨m - 1, by omega⟩
      obtain rfl : i = 252 := by omega
      rw [fLog_sumOf_12_h4, if_neg (by decide)]
    | succ r ih =>
      intro m i hi hm
      obtain ⟨m, rfl⟩ : ∃ k, m = k + 1 := ⟨m - 1, by omega⟩
      rw [fLog_sumOf_12_h4, show cI 0 + cI 252 = cI ((252 : Nat) : Int) by decide, if_pos ((q_lt (by omega) (by omega)).mpr (by omega)), if_pos (by rw [lt_i, q_ti (by omega), show (cI 256).toInt = 256 from rfl]; omega), if_pos (q_in (by omega) (by decide)), q_ix (by omega), ltI_eq, ltI_eq, q_s (by omega), ← ih m (i + 1) (by omega) (by omega)]
      simp only [fdS, Nat.zero_add]
  exact key 252 1048576 0 (by decide) (by decide)
theorem sum556 : fM_sum_556 t (cI 0) = some (fdS (t.1 556) 0 252) := by
  have key : ∀ (r m i : Nat), i + r = 252 → r < m → fM_sum_556_h4 t m (cI 0) (fdS (t.1 556) 0 i) (cI (i : Int)) = some (fdS (t.1 556) 0 252) := by
    intro r
    induction r with
    | zero =>
      intro m i hi hm
      obtain ⟨m, rfl⟩ : ∃ k, m = k + 1 := ⟨m - 1, by omega⟩
      obtain rfl : i = 252 := by omega
      rw [fM_sum_556_h4, if_neg (by decide)]
    | succ r ih =>
      intro m i hi hm
      obtain ⟨m, rfl⟩ : ∃ k, m = k + 1 := ⟨m - 1, by omega⟩
      rw [fM_sum_556_h4, show cI 0 + cI 252 = cI ((252 : Nat) : Int) by decide, if_pos ((q_lt (by omega) (by omega)).mpr (by omega)), if_pos (q_in (by omega) (by decide)), q_ix (by omega), ltI_eq, ltI_eq, q_s (by omega), ← ih m (i + 1) (by omega) (by omega)]
      simp only [fdS, Nat.zero_add]
  exact key 252 1048576 0 (by decide) (by decide)
/-- the bytes of a block before its sum -/
def bk (w : Nat → Int32) (off len : Nat) (num last : Int32) (j : Nat) : Int32 := if j = 0 then i2b (i2b (num >>> (cI 8 &&& 31))) else if j = 1 then i2b (i2b num) else if j = 2 then i2b (i2b last) else if j = 3 then i2b (i2b (cI (len : Int))) else if j < 4 + len then i2b (w (off + (j - 4))) else i2b (cI 0)
/-- a byte of the sum -/
def bks (v : Int32) (j : Nat) : Int32 := i2b (i2b (v >>> ((cI 24 - cI 8 * cI ((j - 252 : Nat) : Int)) &&& 31)))
/-- … and with it -/
def bkF (w : Nat → Int32) (off len : Nat) (num last : Int32) (j : Nat) : Int32 := if j < 252 then bk w off len num last j else bks (fdS (bk w off len num last) 0 252) j
theorem bkF_i {w : Nat → Int32} {off len : Nat} {num last : Int32} {j : Nat} : i2b (bkF w off len num last j) = bkF w off len num last j := by
  unfold bkF bk bks
  split
  · split
    · exact i2b_i _
    · split
      · exact i2b_i _
      · split
        · exact i2b_i _
        · split
          · exact i2b_i _
          · split
            · exact i2b_i _
            · exact i2b_i _
  · exact i2b_i _
theorem mkC {k len U : Nat} {num last : Int32} (hU : s.1 9 6 = cI (U : Int)) (hU2 : U ≤ 37200) (hk : 248 * k ≤ U) (hl : (248 ≤ U - 248 * k ∧ len = 248) ∨ (U - 248 * k < 248 ∧ len = U - 248 * k)) : ∃ s', fLog_makeBlock s (cI (k : Int)) num last = some s' ∧ ∀ j, j < 256 → s'.1 12 j = bkF (s.1 13) (248 * k) len num (if last = 0 then cI 0 else cI 1) j := by
  have e1 : cI (k : Int) * cI 248 = cI ((248 * k : Nat) : Int) := by
    rw [show 248 * k = k * 248 by omega]
    exact q_mul0 (b := 248) (by omega) (by decide) (by omega)
  have e2 : s.1 9 6 - cI ((248 * k : Nat) : Int) = cI ((U - 248 * k : Nat) : Int) := by rw [hU]; exact q_sb hk (by omega)
  have mn : fMath_min s (cI 248) (cI ((U - 248 * k : Nat) : Int)) = some (cI (len : Int)) := by
    unfold fMath_min
    rcases hl with ⟨a, b⟩ | ⟨a, b⟩
    · rw [if_pos (by rw [le_i, q_ti (by omega), show (cI 248).toInt = 248 from rfl]; omega), b]; rfl
    · rw [if_neg (by rw [le_i, q_ti (by omega), show (cI 248).toInt = 248 from rfl]; omega), b]
  have hl2 : len ≤ 248 := by omega
  have hl3 : 248 * k + len ≤ 37200 := by omega
  unfold fLog_makeBlock
  rw [ltI_eq, e1, e2, mn, bd1_some, e_fArr_fillL_12, bd1_some, ltM_eq, ltM_eq]
  have key : ∀ y, ∃ s', fLog_makeBlock_b63 (wI (wI (wR s 12 0 256 fun _ => i2b (cI 0)) 12 (ix (cI 0)) (i2b (i2b (num >>> (cI 8 &&& 31))))) 12 (ix (cI 1)) (i2b (i2b num))) (cI ((248 * k : Nat) : Int)) (cI (len : Int)) (cI 2) y = some s' ∧ ∀ j, j < 256 → s'.1 12 j = bkF (s.1 13) (248 * k) len num y j := by
    intro y
    unfold fLog_makeBlock_b63
    rw [if_pos (by decide), ltM_eq, ltM_eq, ix_0, ix_1, ix_2, ix_3]
    obtain ⟨S, eS⟩ : ∃ S, S = wI (wI (wI (wI (wR s 12 0 256 fun _ => i2b (cI 0)) 12 0 (i2b (i2b (num >>> (cI 8 &&& 31))))) 12 1 (i2b (i2b num))) 12 2 (i2b (i2b y))) 12 3 (i2b (i2b (cI (len : Int)))) := ⟨_, rfl⟩
    have S13 : S.1 13 = s.1 13 := by rw [eS, wI_ne (by decide), wI_ne (by decide), wI_ne (by decide), wI_ne (by decide), wR_ne (by decide)]
    rw [← eS]
    have f1 := fill_nat (H := fun n u x => fLog_makeBlock_h77 n u (cI ((248 * k : Nat) : Int)) (cI (len : Int)) x) (c := 12) (off := 4) (N := len) (f := fun b => i2b (s.1 13 (248 * k + (b - 4)))) (K := fun u => bd1 (fLog_sumOf_12 u (cI 0)) fun v => fLog_makeBlock_h122 1048576 u v (cI 0)) (P := fun u => u.1 13 = s.1 13)
      (fun n u i hp hi => by
        show fLog_makeBlock_h77 (n + 1) u _ _ _ = _
        rw [fLog_makeBlock_h77, if_pos ((q_lt (by omega) (by omega)).mpr hi), q_ad (by omega), if_pos (q_in (by omega) (by decide)), q_ix (by omega), show cI 4 + cI (i : Int) = cI ((4 + i : Nat) : Int) from q_ad (a := 4) (by omega), if_pos (q_in (by omega) (by decide)), q_ix (by omega), ltM_eq, hp, q_s (by omega), show 4 + i - 4 = i by omega])
      (fun n u hp => by
        show fLog_makeBlock_h77 (n + 1) u _ _ _ = _
        rw [fLog_makeBlock_h77, if_neg (by rw [lt_i]; omega)])
      (fun u k v hp => by rw [wI_ne (by decide)]; exact hp) len 1048576 0 S S13 (by omega) (by omega)
    have f1 : fLog_makeBlock_h77 1048576 S (cI ((248 * k : Nat) : Int)) (cI (len : Int)) (cI 0) = _ := f1
    rw [f1]
    show ∃ s', (bd1 (fLog_sumOf_12 (wR S 12 (4 + 0) (4 + len) _) (cI 0)) fun v => fLog_makeBlock_h122 1048576 _ v (cI 0)) = some s' ∧ _
    rw [sum12, bd1_some]
    have base : ∀ j, j < 252 → (wR S 12 (4 + 0) (4 + len) fun b => i2b (s.1 13 (248 * k + (b - 4)))).1 12 j = bk (s.1 13) (248 * k) len num y j := fun j hj => by
      rw [wR_1, eS]
      unfold bk
      by_cases a0 : j = 0
      · subst a0; rw [if_neg (by omega), if_pos rfl, wI_c, up1_ne (by decide), wI_c, up1_ne (by decide), wI_c, up1_ne (by decide), wI_c, up1_eq]
      rw [if_neg a0]
      by_cases a1 : j = 1
      · subst a1; rw [if_neg (by omega), if_pos rfl, wI_c, up1_ne (by decide), wI_c, up1_ne (by decide), wI_c, up1_eq]
      rw [if_neg a1]
      by_cases a2 : j = 2
      · subst a2; rw [if_neg (by omega), if_pos rfl, wI_c, up1_ne (by decide), wI_c, up1_eq]
      rw [if_neg a2]
      by_cases a3 : j = 3
      · subst a3; rw [if_neg (by omega), if_pos rfl, wI_c, up1_eq]
      rw [if_neg a3]
      by_cases a4 : j < 4 + len
      · rw [if_pos ⟨rfl, by omega, a4⟩, if_pos a4]
      · rw [if_neg (by omega), if_neg a4, wI_c, up1_ne a3, wI_c, up1_ne a2, wI_c, up1_ne a1, wI_c, up1_ne a0, wR_1, if_pos ⟨rfl, by omega, by omega⟩]
    obtain ⟨T, eT⟩ : ∃ T, T = wR S 12 (4 + 0) (4 + len) fun b => i2b (s.1 13 (248 * k + (b - 4))) := ⟨_, rfl⟩
    rw [← eT] at base ⊢
    have sm : fdS (T.1 12) 0 252 = fdS (bk (s.1 13) (248 * k) len num y) 0 252 := fdS_cg 252 (fun j hj => by rw [Nat.zero_add]; exact base j hj)
    rw [sm]
    obtain ⟨v, ev⟩ : ∃ v, v = fdS (bk (s.1 13) (248 * k) len num y) 0 252 := ⟨_, rfl⟩
    rw [← ev]
    have f2 := fill_nat (H := fun n u x => fLog_makeBlock_h122 n u v x) (c := 12) (off := 252) (N := 4) (f := fun b => bks v b) (K := some) (P := fun _ => True)
      (fun n u i hp hi => by
        show fLog_makeBlock_h122 (n + 1) u _ _ = _
        rw [fLog_makeBlock_h122, if_pos (by rw [lt_i, q_ti (by omega), show (cI 4).toInt = 4 from rfl]; omega), show cI 252 + cI (i : Int) = cI ((252 + i : Nat) : Int) from q_ad (a := 252) (by omega), if_pos (q_in (by omega) (by decide)), q_ix (by omega), ltM_eq, q_s (by omega)]
        simp only [bks, show 252 + i - 252 = i by omega])
      (fun n u hp => by
        show fLog_makeBlock_h122 (n + 1) u _ _ = _
        rw [fLog_makeBlock_h122, if_neg (by decide)])
      (fun u k v hp => trivial) 4 1048576 0 T trivial (by decide) (by decide)
    have f2 : fLog_makeBlock_h122 1048576 T v (cI 0) = _ := f2
    refine ⟨_, f2, fun j hj => ?_⟩
    rw [wR_1]
    unfold bkF
    by_cases z : j < 252
    · rw [if_neg (by omega), if_pos z]; exact base j z
    · rw [if_pos ⟨rfl, by omega, by omega⟩, if_neg z, ← ev]
  by_cases z : last = 0
  · rw [if_pos z, if_pos z]; exact key _
  · rw [if_neg z, if_neg z]; exact key _
theorem mkM {k len U : Nat} {num last : Int32} (hU : t.1 549 9 = cI (U : Int)) (hU2 : U ≤ 37200) (hk : 248 * k ≤ U) (hl : (¬ last = 0 ∧ len = U - 248 * k) ∨ (last = 0 ∧ len = 248)) (hl2 : len ≤ 248) (hl3 : 248 * k + len ≤ U) : ∃ t', fM_make t num (cI ((248 * k : Nat) : Int)) last = some t' ∧ ∀ j, j < 256 → t'.1 556 j = bkF (t.1 552) (248 * k) len num (if last = 0 then cI 0 else cI 1) j := by
  have e2 : t.1 549 9 - cI ((248 * k : Nat) : Int) = cI ((U - 248 * k : Nat) : Int) := by rw [hU]; exact q_sb hk (by omega)
  have hd : fM_make t num (cI ((248 * k : Nat) : Int)) last = fM_make_b16 t num (cI ((248 * k : Nat) : Int)) last (cI (len : Int)) := by
    unfold fM_make
    rcases hl with ⟨a, b⟩ | ⟨a, b⟩
    · rw [if_neg a, e2, ← b]
    · rw [if_pos a, b]; rfl
  rw [hd]
  unfold fM_make_b16
  have f1 := fill_nat (H := fun n u x => fM_make_h21 n u num (cI ((248 * k : Nat) : Int)) last (cI (len : Int)) x) (c := 556) (off := 0) (N := 252) (f := fun b => if b < 4 then i2b (cI 0) else if b < 4 + len then i2b (t.1 552 (248 * k + (b - 4))) else i2b (cI 0)) (K := fun u => if last = 0 then fM_make_b105 (wI (wI u 556 0 (i2b (i2b (num >>> (cI 8 &&& 31))))) 556 1 (i2b (i2b num))) (cI (len : Int)) (cI 2) (cI 0) else fM_make_b105 (wI (wI u 556 0 (i2b (i2b (num >>> (cI 8 &&& 31))))) 556 1 (i2b (i2b num))) (cI (len : Int)) (cI 2) (cI 1)) (P := fun u => u.1 552 = t.1 552)
    (fun n u i hp hi => by
      show fM_make_h21 (n + 1) u _ _ _ _ _ = _
      have i4 : cI (i : Int) < cI 4 ↔ i < 4 := by rw [lt_i, q_ti (by omega), show (cI 4).toInt = 4 from rfl]; omega
      have il : cI (i : Int) < cI (len : Int) + cI 4 ↔ i < 4 + len := by
        rw [show cI (len : Int) + cI 4 = cI ((len + 4 : Nat) : Int) from q_ad (b := 4) (by omega), q_lt (by omega) (by omega)]; omega
      have b65 : ∀ y, fM_make_b65 (fM_make_h21 n) u num (cI ((248 * k : Nat) : Int)) last (cI (len : Int)) (cI (i : Int)) (cI (i : Int)) y = fM_make_h21 n (wI u 556 i (i2b y)) num (cI ((248 * k : Nat) : Int)) last (cI (len : Int)) (cI ((i + 1 : Nat) : Int)) := fun y => by
        unfold fM_make_b65
        rw [if_pos (q_in (by omega) (by decide)), q_ix (by omega), ltM_eq, q_s (by omega)]
      rw [fM_make_h21, if_pos (by rw [lt_i, q_ti (by omega), show (cI 252).toInt = 252 from rfl]; omega), Nat.zero_add]
      unfold fM_make_b64
      by_cases a : i < 4
      · rw [if_pos (i4.mpr a), b65, if_pos a]
      rw [if_neg (fun q => a (i4.mp q)), if_neg a]
      by_cases b : i < 4 + len
      · have e : cI ((248 * k : Nat) : Int) + cI (i : Int) - cI 4 = cI ((248 * k + (i - 4) : Nat) : Int) := by
          rw [q_ad (by omega), show cI ((248 * k + i : Nat) : Int) - cI 4 = cI ((248 * k + i - 4 : Nat) : Int) from q_sb (b := 4) (by omega) (by omega), show 248 * k + i - 4 = 248 * k + (i - 4) by omega]
        rw [if_pos (il.mpr b), if_pos b, e, if_pos (q_in (by omega) (by decide)), q_ix (by omega), b65, hp]
      · rw [if_neg (fun q => b (il.mp q)), if_neg b, b65])
    (fun n u hp => by
      show fM_make_h21 (n + 1) u _ _ _ _ _ = _
      rw [fM_make_h21, if_neg (by decide), ltM_eq, ltM_eq, ix_0, ix_1])
    (fun u k v hp => by rw [wI_ne (by decide)]; exact hp) 252 1048576 0 t rfl (by decide) (by decide)
  have f1 : fM_make_h21 1048576 t num (cI ((248 * k : Nat) : Int)) last (cI (len : Int)) (cI 0) = _ := f1
  rw [f1]
  obtain ⟨R, eR⟩ : ∃ R, R = wR t 556 (0 + 0) (0 + 252) (fun b => if b < 4 then i2b (cI 0) else if b < 4 + len then i2b (t.1 552 (248 * k + (b - 4))) else i2b (cI 0)) := ⟨_, rfl⟩
  rw [← eR]
  have key : ∀ y, ∃ t', fM_make_b105 (wI (wI R 556 0 (i2b (i2b (num >>> (cI 8 &&& 31))))) 556 1 (i2b (i2b num))) (cI (len : Int)) (cI 2) y = some t' ∧ ∀ j, j < 256 → t'.1 556 j = bkF (t.1 552) (248 * k) len num y j := by
    intro y
    unfold fM_make_b105
    rw [if_pos (by decide), ltM_eq, ltM_eq, ix_2, ix_3, sum556, bd1_some]
    have base : ∀ j, j < 252 → (wI (wI (wI (wI R 556 0 (i2b (i2b (num >>> (cI 8 &&& 31))))) 556 1 (i2b (i2b num))) 556 2 (i2b (i2b y))) 556 3 (i2b (i2b (cI (len : Int))))).1 556 j = bk (t.1 552) (248 * k) len num y j := fun j hj => by
      unfold bk
      by_cases a0 : j = 0
      · subst a0; rw [if_pos rfl, wI_c, up1_ne (by decide), wI_c, up1_ne (by decide), wI_c, up1_ne (by decide), wI_c, up1_eq]
      rw [if_neg a0]
      by_cases a1 : j = 1
      · subst a1; rw [if_pos rfl, wI_c, up1_ne (by decide), wI_c, up1_ne (by decide), wI_c, up1_eq]
      rw [if_neg a1]
      by_cases a2 : j = 2
      · subst a2; rw [if_pos rfl, wI_c, up1_ne (by decide), wI_c, up1_eq]
      rw [if_neg a2]
      by_cases a3 : j = 3
      · subst a3; rw [if_pos rfl, wI_c, up1_eq]
      rw [if_neg a3, wI_c, up1_ne a3, wI_c, up1_ne a2, wI_c, up1_ne a1, wI_c, up1_ne a0, eR, wR_1, if_pos ⟨rfl, by omega, by omega⟩, if_neg (show ¬ j < 4 by omega)]
    obtain ⟨T, eT⟩ : ∃ T, T = wI (wI (wI (wI R 556 0 (i2b (i2b (num >>> (cI 8 &&& 31))))) 556 1 (i2b (i2b num))) 556 2 (i2b (i2b y))) 556 3 (i2b (i2b (cI (len : Int)))) := ⟨_, rfl⟩
    rw [← eT] at base ⊢
    have sm : fdS (T.1 556) 0 252 = fdS (bk (t.1 552) (248 * k) len num y) 0 252 := fdS_cg 252 (fun j hj => by rw [Nat.zero_add]; exact base j hj)
    rw [sm]
    obtain ⟨v, ev⟩ : ∃ v, v = fdS (bk (t.1 552) (248 * k) len num y) 0 252 := ⟨_, rfl⟩
    rw [← ev]
    have f2 := fill_nat (H := fun n u x => fM_make_h129 n u v x) (c := 556) (off := 252) (N := 4) (f := fun b => bks v b) (K := some) (P := fun _ => True)
      (fun n u i hp hi => by
        show fM_make_h129 (n + 1) u _ _ = _
        rw [fM_make_h129, if_pos (by rw [lt_i, q_ti (by omega), show (cI 4).toInt = 4 from rfl]; omega), show cI 252 + cI (i : Int) = cI ((252 + i : Nat) : Int) from q_ad (a := 252) (by omega), if_pos (q_in (by omega) (by decide)), q_ix (by omega), ltM_eq, q_s (by omega)]
        simp only [bks, show 252 + i - 252 = i by omega])
      (fun n u hp => by
        show fM_make_h129 (n + 1) u _ _ = _
        rw [fM_make_h129, if_neg (by decide)])
      (fun u k v hp => trivial) 4 1048576 0 T trivial (by decide) (by decide)
    have f2 : fM_make_h129 1048576 T v (cI 0) = _ := f2
    refine ⟨_, f2, fun j hj => ?_⟩
    rw [wR_1]
    unfold bkF
    by_cases z : j < 252
    · rw [if_neg (by omega), if_pos z]; exact base j z
    · rw [if_pos ⟨rfl, by omega, by omega⟩, if_neg z, ← ev]
  by_cases z : last = 0
  · rw [if_pos z, if_pos z]; exact key _
  · rw [if_neg z, if_neg z]; exact key _
end
