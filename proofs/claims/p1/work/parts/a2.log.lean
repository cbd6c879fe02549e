/-! ===== LEVEL 3: the log: records that wait ===== -/
def app (s : ev_M) (v : Int32) : ev_M := wI (wI s 9 6 (s.1 9 6 + cI 1)) 13 (ix (s.1 9 6)) (i2b (i2b v))
def appL : List Int32 → ev_M → ev_M
  | [], s => s
  | v :: l, s => appL l (app s v)
def nte (t : ev_M) (v : Int32) : ev_M := wI (wI t 552 (ix (t.1 549 9)) (i2b (i2b v))) 549 9 (t.1 549 9 + cI 1)
def nteL : List Int32 → ev_M → ev_M
  | [], t => t
  | v :: l, t => nteL l (nte t v)
theorem app_ne {s : ev_M} {v : Int32} {c : Nat} (h1 : c ≠ 9) (h2 : c ≠ 13) : (app s v).1 c = s.1 c := by
  unfold app; rw [wI_ne h2, wI_ne h1]
theorem app_9 {s : ev_M} {v : Int32} {k : Nat} (h : k ≠ 6) : (app s v).1 9 k = s.1 9 k := by
  unfold app; rw [wI_ne (by decide), wI_c, up1_ne h]
theorem app_6 {s : ev_M} {v : Int32} : (app s v).1 9 6 = s.1 9 6 + cI 1 := by
  unfold app; rw [wI_ne (by decide), wI_c, up1_eq]
theorem app_13 {s : ev_M} {v : Int32} : (app s v).1 13 = up1 (s.1 13) (ix (s.1 9 6)) (i2b (i2b v)) := by
  unfold app; rw [wI_c, wI_ne (by decide)]
theorem app_L {s : ev_M} {v : Int32} : (app s v).2 = s.2 := rfl
theorem appL_ne {c : Nat} (h1 : c ≠ 9) (h2 : c ≠ 13) : ∀ (l : List Int32) {s : ev_M}, (appL l s).1 c = s.1 c
  | [], _ => rfl
  | v :: l, s => (appL_ne h1 h2 l).trans (app_ne h1 h2)
theorem appL_9 {k : Nat} (h : k ≠ 6) : ∀ (l : List Int32) {s : ev_M}, (appL l s).1 9 k = s.1 9 k
  | [], _ => rfl
  | v :: l, s => (appL_9 h l).trans (app_9 h)
theorem appL_L : ∀ (l : List Int32) {s : ev_M}, (appL l s).2 = s.2
  | [], _ => rfl
  | v :: l, s => (appL_L l).trans app_L
theorem appL_app : ∀ (l m : List Int32) {s : ev_M}, appL m (appL l s) = appL (l ++ m) s
  | [], _, _ => rfl
  | _ :: l, m, _ => appL_app l m
theorem appL_6 : ∀ (l : List Int32) {s : ev_M}, 0 ≤ (s.1 9 6).toInt → (s.1 9 6).toInt + l.length < 2147483647 → ((appL l s).1 9 6).toInt = (s.1 9 6).toInt + l.length
  | [], _, _, _ => by simp [appL]
  | v :: l, s, h0, h1 => by
    rw [List.length_cons] at h1
    have e : ((app s v).1 9 6).toInt = (s.1 9 6).toInt + 1 := by rw [app_6, inc_i (by omega)]
    have h2 := appL_6 l (s := app s v) (by omega) (by omega)
    show ((appL l (app s v)).1 9 6).toInt = _
    rw [h2, e, List.length_cons]
    omega
theorem log_append {s : ev_M} {v : Int32} (h0 : 0 ≤ (s.1 9 6).toInt) (h1 : (s.1 9 6).toInt < 37200) : fLog_append s v = some (app s v) := by
  unfold fLog_append
  rw [if_pos (by rw [lt_i]; exact h1), ltM_eq, if_pos (inb_iff.mpr ⟨h0, by omega⟩)]
  rfl
theorem m_note {t : ev_M} {v : Int32} (h0 : 0 ≤ (t.1 549 9).toInt) (h1 : (t.1 549 9).toInt < 37200) : fM_note t v = some (nte t v) := by
  unfold fM_note
  rw [if_pos (inb_iff.mpr ⟨h0, by omega⟩)]
  simp only [ltM_eq]
  unfold nte
  rw [show (wI t 552 (ix (t.1 549 9)) (i2b (i2b v))).1 549 9 = t.1 549 9 from congrFun (wI_ne (by decide)) 9]
theorem nte_ne {t : ev_M} {v : Int32} {c : Nat} (h1 : c ≠ 549) (h2 : c ≠ 552) : (nte t v).1 c = t.1 c := by
  unfold nte; rw [wI_ne h1, wI_ne h2]
theorem nte_k {t : ev_M} {v : Int32} {k : Nat} (h : k ≠ 9) : (nte t v).1 549 k = t.1 549 k := by
  unfold nte; rw [wI_c, up1_ne h, wI_ne (by decide)]
theorem nte_9 {t : ev_M} {v : Int32} : (nte t v).1 549 9 = t.1 549 9 + cI 1 := by
  unfold nte; rw [wI_c, up1_eq]
theorem nte_552 {t : ev_M} {v : Int32} : (nte t v).1 552 = up1 (t.1 552) (ix (t.1 549 9)) (i2b (i2b v)) := by
  unfold nte; rw [wI_ne (by decide), wI_c]
theorem nteL_ne {c : Nat} (h1 : c ≠ 549) (h2 : c ≠ 552) : ∀ (l : List Int32) {t : ev_M}, (nteL l t).1 c = t.1 c
  | [], _ => rfl
  | v :: l, t => (nteL_ne h1 h2 l).trans (nte_ne h1 h2)
theorem nteL_k {k : Nat} (h : k ≠ 9) : ∀ (l : List Int32) {t : ev_M}, (nteL l t).1 549 k = t.1 549 k
  | [], _ => rfl
  | v :: l, t => (nteL_k h l).trans (nte_k h)
theorem nteL_L : ∀ (l : List Int32) {t : ev_M}, (nteL l t).2 = t.2
  | [], _ => rfl
  | v :: l, t => nteL_L l
theorem nteL_app : ∀ (l m : List Int32) {t : ev_M}, nteL m (nteL l t) = nteL (l ++ m) t
  | [], _, _ => rfl
  | _ :: l, m, _ => nteL_app l m
theorem nteL_9 : ∀ (l : List Int32) {t : ev_M}, 0 ≤ (t.1 549 9).toInt → (t.1 549 9).toInt + l.length < 2147483647 → ((nteL l t).1 549 9).toInt = (t.1 549 9).toInt + l.length
  | [], _, _, _ => by simp [nteL]
  | v :: l, t, h0, h1 => by
    rw [List.length_cons] at h1
    have e : ((nte t v).1 549 9).toInt = (t.1 549 9).toInt + 1 := by rw [nte_9, inc_i (by omega)]
    have h2 := nteL_9 l (t := nte t v) (by omega) (by omega)
    show ((nteL l (nte t v)).1 549 9).toInt = _
    rw [h2, e, List.length_cons]
    omega
/-- what waits is the same on both sides -/
def RWt (s t : ev_M) : Prop := t.1 549 9 = s.1 9 6 ∧ 0 ≤ (s.1 9 6).toInt ∧ Ag (ix (s.1 9 6)) (s.1 13) (t.1 552)
theorem RWt_app {s t : ev_M} (v : Int32) (h : RWt s t) (h1 : (s.1 9 6).toInt < 37200) : RWt (app s v) (nte t v) := by
  obtain ⟨a, b, c⟩ := h
  have e : (s.1 9 6 + cI 1).toInt = (s.1 9 6).toInt + 1 := inc_i (by omega)
  unfold RWt
  rw [nte_9, app_6, app_13, nte_552, a]
  exact ⟨rfl, by omega, c.ext rfl (ix_inc b (by omega))⟩
theorem RWt_appL : ∀ (l : List Int32) {s t : ev_M}, RWt s t → (s.1 9 6).toInt + l.length ≤ 37200 → RWt (appL l s) (nteL l t)
  | [], _, _, h, _ => h
  | v :: l, s, t, h, h1 => by
    rw [List.length_cons] at h1
    have e : ((app s v).1 9 6).toInt = (s.1 9 6).toInt + 1 := by rw [app_6, inc_i (by omega)]
    exact RWt_appL l (RWt_app v h (by omega)) (by omega)
/-- an argument's bytes -/
def wB (v : Int32) : List Int32 := [v >>> (cI 24 &&& 31), v >>> (cI 16 &&& 31), v >>> (cI 8 &&& 31), v >>> (cI 0 &&& 31)]
def argB (f : Nat → Int32) : Nat → Nat → List Int32
  | _, 0 => []
  | k, m + 1 => wB (f k) ++ argB f (k + 1) m
def txtL (f : Nat → Int32) : Nat → Nat → List Int32
  | _, 0 => []
  | k, m + 1 => f k :: txtL f (k + 1) m
theorem argB_len (f : Nat → Int32) : ∀ (m k : Nat), (argB f k m).length = 4 * m
  | 0, _ => rfl
  | m + 1, k => by
    show (wB (f k) ++ argB f (k + 1) m).length = _
    rw [List.length_append, argB_len f m]
    show 4 + 4 * m = _
    omega
theorem txtL_len (f : Nat → Int32) : ∀ (m k : Nat), (txtL f k m).length = m
  | 0, _ => rfl
  | m + 1, k => by
    show (txtL f (k + 1) m).length + 1 = _
    rw [txtL_len f m]
theorem argB_eq {f g : Nat → Int32} : ∀ (m k : Nat), (∀ j, k ≤ j → j < k + m → g j = f j) → argB g k m = argB f k m
  | 0, _, _ => rfl
  | m + 1, k, h => by
    show wB (g k) ++ argB g (k + 1) m = wB (f k) ++ argB f (k + 1) m
    rw [h k (by omega) (by omega), argB_eq m (k + 1) (fun j h1 h2 => h j (by omega) (by omega))]
theorem txtL_eq {f g : Nat → Int32} : ∀ (m k : Nat), (∀ j, k ≤ j → j < k + m → g j = f j) → txtL g k m = txtL f k m
  | 0, _, _ => rfl
  | m + 1, k, h => by
    show g k :: txtL g (k + 1) m = f k :: txtL f (k + 1) m
    rw [h k (by omega) (by omega), txtL_eq m (k + 1) (fun j h1 h2 => h j (by omega) (by omega))]
theorem apr_h25 {kk : ev_M → Int32 → Option ev_M} {n : Nat} {s : ev_M} {x1 : Int32} (hx : inb x1 6 = true) (h0 : 0 ≤ (s.1 9 6).toInt) (h1 : (s.1 9 6).toInt + 4 ≤ 37200) : fLog_appendRecord_h25 kk (n + 5) s x1 (cI 24) = kk (appL (wB (s.1 14 (ix x1))) s) (x1 + cI 1) := by
  have st : ∀ (m : Nat) (u : ev_M) (z : Int32), 0 ≤ z.toInt → 0 ≤ (u.1 9 6).toInt → (u.1 9 6).toInt < 37200 → fLog_appendRecord_h25 kk (m + 1) u x1 z = fLog_appendRecord_h25 kk m (app u ((u.1 14 (ix x1)) >>> (z &&& 31))) x1 (z + cI (-8)) := fun m u z hz a b => by
    have e : ¬ z < 0 := by rw [lt_i, i32_0]; omega
    simp only [fLog_appendRecord_h25, if_neg e, if_pos hx, log_append a b, bd1_some]
  have e1 : ((app s ((s.1 14 (ix x1)) >>> (cI 24 &&& 31))).1 9 6).toInt = (s.1 9 6).toInt + 1 := by rw [app_6, inc_i (by omega)]
  rw [st (n + 4) s (cI 24) (by decide) h0 (by omega), st (n + 3) _ _ (by decide) (by omega) (by omega), app_ne (c := 14) (by decide) (by decide)]
  generalize hs1 : app s ((s.1 14 (ix x1)) >>> (cI 24 &&& 31)) = s1 at e1 ⊢
  have e2 : ((app s1 ((s.1 14 (ix x1)) >>> (cI 16 &&& 31))).1 9 6).toInt = (s.1 9 6).toInt + 2 := by rw [app_6, inc_i (by omega)]; omega
  have q1 : s1.1 14 = s.1 14 := by rw [← hs1]; exact app_ne (by decide) (by decide)
  rw [show cI 24 + cI (-8) = cI 16 from rfl, st (n + 2) _ _ (by decide) (by omega) (by omega), app_ne (c := 14) (by decide) (by decide), q1]
  generalize hs2 : app s1 ((s.1 14 (ix x1)) >>> (cI 16 &&& 31)) = s2 at e2 ⊢
  have q2 : s2.1 14 = s.1 14 := by rw [← hs2]; exact (app_ne (by decide) (by decide)).trans q1
  have e3 : ((app s2 ((s.1 14 (ix x1)) >>> (cI 8 &&& 31))).1 9 6).toInt = (s.1 9 6).toInt + 3 := by rw [app_6, inc_i (by omega)]; omega
  rw [show cI 16 + cI (-8) = cI 8 from rfl, st (n + 1) _ _ (by decide) (by omega) (by omega), app_ne (c := 14) (by decide) (by decide), q2, show cI 8 + cI (-8) = cI 0 from rfl]
  simp only [fLog_appendRecord_h25, if_pos (show cI 0 + cI (-8) < 0 by decide)]
  rw [← hs2, ← hs1]
  rfl
theorem apr_h91 {num : Nat} : ∀ (m n : Nat) {s : ev_M} {x1 : Int32}, 0 ≤ x1.toInt → (s.1 1 1).toInt ≤ 4096 → x1.toInt + m = (s.1 1 1).toInt → 0 ≤ (s.1 9 6).toInt → (s.1 9 6).toInt + m ≤ 37200 → fLog_appendRecord_h91 (n + m + 1) s x1 = some (appL (txtL (s.1 2) (ix x1) m) s)
  | 0, n, s, x1, h0, h1, h2, h3, h4 => by
    have e : ¬ x1 < s.1 1 1 := by rw [lt_i]; omega
    simp only [fLog_appendRecord_h91, if_neg e]
    rfl
  | m + 1, n, s, x1, h0, h1, h2, h3, h4 => by
    have e : x1 < s.1 1 1 := by rw [lt_i]; omega
    have hb : inb x1 4096 = true := inb_iff.mpr ⟨h0, by omega⟩
    have e1 : ((app s (s.1 2 (ix x1))).1 9 6).toInt = (s.1 9 6).toInt + 1 := by rw [app_6, inc_i (by omega)]
    have i1 : (x1 + cI 1).toInt = x1.toInt + 1 := inc_i (by omega)
    have a1 : (app s (s.1 2 (ix x1))).1 1 = s.1 1 := app_ne (by decide) (by decide)
    have a2 : (app s (s.1 2 (ix x1))).1 2 = s.1 2 := app_ne (by decide) (by decide)
    have ih := apr_h91 (num := num) m n (s := app s (s.1 2 (ix x1))) (x1 := x1 + cI 1) (by omega) (by rw [a1]; exact h1) (by rw [a1]; omega) (by omega) (by omega)
    show fLog_appendRecord_h91 ((n + m + 1) + 1) s x1 = _
    generalize n + m + 1 = q at ih ⊢
    simp only [fLog_appendRecord_h91, if_pos e, if_pos hb, log_append h3 (by omega), bd1_some]
    rw [ih, a2, ix_inc h0 (by omega)]
    rfl
/-- does the act read a text -/
abbrev rdT (a : Int32) : Prop := a = cI 1 ∨ a = cI 4 ∨ a = cI 31
theorem log_reads {s : ev_M} {a : Int32} : fLog_readsTape s a = some (bI (rdT a)) := by
  unfold fLog_readsTape fLog_readsTape_b16
  by_cases h1 : a = cI 1
  · rw [if_pos h1, bI_t (Or.inl h1)]; rfl
  · by_cases h2 : a = cI 4
    · rw [if_neg h1, if_pos h2, bI_t (Or.inr (Or.inl h2))]; rfl
    · by_cases h3 : a = cI 31
      · rw [if_neg h1, if_neg h2, if_pos h3, bI_t (Or.inr (Or.inr h3))]; rfl
      · rw [if_neg h1, if_neg h2, if_neg h3, bI_f (fun z => z.elim h1 (fun z => z.elim h2 h3))]; rfl
theorem m_reads {t : ev_M} {a : Int32} : fM_reads t a = some (bI (rdT a)) := by
  unfold fM_reads fM_reads_b16
  by_cases h1 : a = cI 1
  · rw [if_pos h1, bI_t (Or.inl h1)]; rfl
  · by_cases h2 : a = cI 4
    · rw [if_neg h1, if_pos h2, bI_t (Or.inr (Or.inl h2))]; rfl
    · by_cases h3 : a = cI 31
      · rw [if_neg h1, if_neg h2, if_pos h3, bI_t (Or.inr (Or.inr h3))]; rfl
      · rw [if_neg h1, if_neg h2, if_neg h3, bI_f (fun z => z.elim h1 (fun z => z.elim h2 h3))]; rfl
/-- how many arguments an act has -/
def nAr : List Nat := [0, 0, 4, 3, 1, 6, 2, 1, 3, 2, 4, 3, 2, 1, 1, 1, 5, 2, 2, 2, 1, 1, 4, 1, 1, 2, 4, 2, 1, 1, 2, 0, 1, 3, 3, 2, 2, 2, 4, 3, 1]
def e_mem : ev_M := (fun _ _ => 0, (fun _ _ => 0, (0, (fun _ _ => false, (0, 0)))))
theorem args_all : ((List.range 41).all fun j => Nat.beq j 0 || decide (fM_argumentsOf e_mem (cI (j : Nat)) = some (cI ((nAr.getD j 0 : Nat) : Int)))) = true := by decide +kernel
theorem m_args {t : ev_M} {a : Int32} (h1 : 1 ≤ a.toInt) (h2 : a.toInt ≤ 40) : fM_argumentsOf t a = some (cI ((nAr.getD (ix a) 0 : Nat) : Int)) := by
  have h := List.all_eq_true.mp args_all (ix a) (List.mem_range.mpr (by rw [ix_toNat]; omega))
  have e : cI ((ix a : Nat) : Int) = a := by rw [ix_int (by omega)]; exact of_toInt a
  rw [e] at h
  rcases (Bool.or_eq_true _ _).mp h with h | h
  · have := Nat.eq_of_beq_eq_true h
    rw [ix_toNat] at this
    omega
  · exact of_decide_eq_true h
theorem nAr_le : ∀ j, nAr.getD j 0 ≤ 6 := by
  intro j
  by_cases h : j < 41
  · have h9 : ((List.range 41).all fun j => decide (nAr.getD j 0 ≤ 6)) = true := by decide +kernel
    exact of_decide_eq_true (List.all_eq_true.mp h9 j (List.mem_range.mpr h))
  · have h9 : nAr[j]? = none := List.getElem?_eq_none (by have : nAr.length = 41 := rfl; omega)
    rw [List.getD_eq_getElem?_getD, h9]
    decide
/-- the table of how many arguments each act has lies in the static cell -/
def Arg41 (s : ev_M) : Prop := ∀ j, j < 41 → s.1 1003 j = cI ((nAr.getD j 0 : Nat) : Int)
/-- the record of the act that is staged -/
def recB (num : Int32) (f : Nat → Int32) (len : Int32) (tx : Nat → Int32) : List Int32 := num :: (argB f 0 (nAr.getD (ix num) 0) ++ (if rdT num then (len >>> (cI 8 &&& 31)) :: len :: txtL tx 0 (ix len) else []))
def recN (num : Int32) (len : Int32) : Nat := 1 + 4 * nAr.getD (ix num) 0 + (if rdT num then 2 + ix len else 0)
theorem recB_len {num len : Int32} {f tx : Nat → Int32} : (recB num f len tx).length = recN num len := by
  unfold recB recN
  by_cases h : rdT num
  · rw [if_pos h, if_pos h, List.length_cons, List.length_append, argB_len, List.length_cons, List.length_cons, txtL_len]; omega
  · rw [if_neg h, if_neg h, List.length_cons, List.length_append, argB_len]
    show _ + 0 + 1 = _
    omega
def aprT (u : ev_M) : Option ev_M := bd1 (fLog_readsTape u (u.1 9 14)) fun v3 => if v3 = 0 then some u else bd1 (fLog_append u ((u.1 1 1) >>> ((cI 8) &&& 31))) fun s4 => bd1 (fLog_append s4 (s4.1 1 1)) fun s5 => fLog_appendRecord_h91 1048576 s5 (cI 0)
theorem apr_h10 : ∀ (m n : Nat) {s : ev_M} {x1 : Int32}, Arg41 s → 1 ≤ (s.1 9 14).toInt → (s.1 9 14).toInt ≤ 40 → 0 ≤ x1.toInt → x1.toInt + m = nAr.getD (ix (s.1 9 14)) 0 → 0 ≤ (s.1 9 6).toInt → (s.1 9 6).toInt + 4 * m ≤ 37200 → fLog_appendRecord_h10 (n + m + 1) s x1 = aprT (appL (argB (s.1 14) (ix x1) m) s)
  | 0, n, s, x1, hA, g1, g2, h0, h2, h3, h4 => by
    have hb : inb (s.1 9 14) 41 = true := inb_iff.mpr ⟨by omega, by omega⟩
    have hl := nAr_le (ix (s.1 9 14))
    have e : ¬ x1 < s.1 1003 (ix (s.1 9 14)) := by
      rw [hA _ (by rw [ix_toNat]; omega), lt_i, cI_toInt (by omega) (by omega)]
      omega
    simp only [fLog_appendRecord_h10, if_pos hb, if_neg e]
    rfl
  | m + 1, n, s, x1, hA, g1, g2, h0, h2, h3, h4 => by
    have hb : inb (s.1 9 14) 41 = true := inb_iff.mpr ⟨by omega, by omega⟩
    have hl := nAr_le (ix (s.1 9 14))
    have e : x1 < s.1 1003 (ix (s.1 9 14)) := by
      rw [hA _ (by rw [ix_toNat]; omega), lt_i, cI_toInt (by omega) (by omega)]
      omega
    have hx : inb x1 6 = true := inb_iff.mpr ⟨h0, by omega⟩
    have i1 : (x1 + cI 1).toInt = x1.toInt + 1 := inc_i (by omega)
    have e6 := appL_6 (wB (s.1 14 (ix x1))) (s := s) h3 (by show _ + ((4 : Nat) : Int) < _; omega)
    have l4 : (wB (s.1 14 (ix x1))).length = 4 := rfl
    have a14 : (appL (wB (s.1 14 (ix x1))) s).1 14 = s.1 14 := appL_ne (by decide) (by decide) _
    have an : (appL (wB (s.1 14 (ix x1))) s).1 9 14 = s.1 9 14 := appL_9 (by decide) _
    have ih := apr_h10 m n (s := appL (wB (s.1 14 (ix x1))) s) (x1 := x1 + cI 1) (fun j hj => (congrFun (appL_ne (by decide) (by decide) _) j).trans (hA j hj)) (by rw [an]; exact g1) (by rw [an]; exact g2) (by omega) (by rw [an]; omega) (by omega) (by omega)
    show fLog_appendRecord_h10 ((n + m + 1) + 1) s x1 = _
    generalize n + m + 1 = q at ih ⊢
    simp only [fLog_appendRecord_h10, if_pos hb, if_pos e]
    rw [show (1048576 : Nat) = 1048571 + 5 from rfl, apr_h25 hx h3 (by omega), ih, a14, ix_inc h0 (by omega), appL_app]
    rfl
theorem log_record {s : ev_M} (hA : Arg41 s) (g1 : 1 ≤ (s.1 9 14).toInt) (g2 : (s.1 9 14).toInt ≤ 40) (t0 : 0 ≤ (s.1 1 1).toInt) (t1 : (s.1 1 1).toInt ≤ 4096) (h3 : 0 ≤ (s.1 9 6).toInt) (h4 : (s.1 9 6).toInt + recN (s.1 9 14) (s.1 1 1) ≤ 37200) : fLog_appendRecord s = some (appL (recB (s.1 9 14) (s.1 14) (s.1 1 1) (s.1 2)) s) := by
  have hN : recN (s.1 9 14) (s.1 1 1) = 1 + 4 * nAr.getD (ix (s.1 9 14)) 0 + (if rdT (s.1 9 14) then 2 + ix (s.1 1 1) else 0) := rfl
  have hl := nAr_le (ix (s.1 9 14))
  unfold fLog_appendRecord
  rw [log_append h3 (by omega), bd1_some]
  have e1 : ((app s (s.1 9 14)).1 9 6).toInt = (s.1 9 6).toInt + 1 := by rw [app_6, inc_i (by omega)]
  have an : (app s (s.1 9 14)).1 9 14 = s.1 9 14 := app_9 (by decide)
  have a14 : (app s (s.1 9 14)).1 14 = s.1 14 := app_ne (by decide) (by decide)
  rw [show (1048576 : Nat) = (1048575 - nAr.getD (ix (s.1 9 14)) 0) + nAr.getD (ix (s.1 9 14)) 0 + 1 by omega, apr_h10 (nAr.getD (ix (s.1 9 14)) 0) _ (s := app s (s.1 9 14)) (x1 := cI 0) (fun j hj => (congrFun (app_ne (by decide) (by decide)) j).trans (hA j hj)) (by rw [an]; exact g1) (by rw [an]; exact g2) (by decide) (by rw [an, show (cI 0).toInt = 0 from rfl]; omega) (by omega) (by omega), a14, ix_0]
  show aprT (appL (argB (s.1 14) 0 (nAr.getD (ix (s.1 9 14)) 0)) (app s (s.1 9 14))) = some (appL (argB (s.1 14) 0 (nAr.getD (ix (s.1 9 14)) 0) ++ _) (app s (s.1 9 14)))
  rw [← appL_app]
  have e2 := appL_6 (argB (s.1 14) 0 (nAr.getD (ix (s.1 9 14)) 0)) (s := app s (s.1 9 14)) (by omega) (by rw [argB_len]; omega)
  rw [argB_len] at e2
  have un : (appL (argB (s.1 14) 0 (nAr.getD (ix (s.1 9 14)) 0)) (app s (s.1 9 14))).1 9 14 = s.1 9 14 := (appL_9 (by decide) _).trans an
  have u1 : (appL (argB (s.1 14) 0 (nAr.getD (ix (s.1 9 14)) 0)) (app s (s.1 9 14))).1 1 = s.1 1 := (appL_ne (by decide) (by decide) _).trans (app_ne (by decide) (by decide))
  have u2 : (appL (argB (s.1 14) 0 (nAr.getD (ix (s.1 9 14)) 0)) (app s (s.1 9 14))).1 2 = s.1 2 := (appL_ne (by decide) (by decide) _).trans (app_ne (by decide) (by decide))
  generalize appL (argB (s.1 14) 0 (nAr.getD (ix (s.1 9 14)) 0)) (app s (s.1 9 14)) = u at e2 un u1 u2 ⊢
  unfold aprT
  rw [log_reads, bd1_some, ite_bI, un]
  by_cases hr : rdT (s.1 9 14)
  · rw [if_pos hr] at hN
    have hi : (ix (s.1 1 1) : Int) = (s.1 1 1).toInt := ix_int t0
    rw [if_pos hr, if_pos hr, log_append (by omega) (by omega), bd1_some]
    have e3 : ((app u (u.1 1 1 >>> (cI 8 &&& 31))).1 9 6).toInt = (u.1 9 6).toInt + 1 := by rw [app_6, inc_i (by omega)]
    have v1 : (app u (u.1 1 1 >>> (cI 8 &&& 31))).1 1 = s.1 1 := (app_ne (by decide) (by decide)).trans u1
    have v2 : (app u (u.1 1 1 >>> (cI 8 &&& 31))).1 2 = s.1 2 := (app_ne (by decide) (by decide)).trans u2
    rw [log_append (by omega) (by omega), bd1_some]
    have e4 : ((app (app u (u.1 1 1 >>> (cI 8 &&& 31))) ((app u (u.1 1 1 >>> (cI 8 &&& 31))).1 1 1)).1 9 6).toInt = (u.1 9 6).toInt + 2 := by rw [app_6, inc_i (by omega)]; omega
    have w1 : (app (app u (u.1 1 1 >>> (cI 8 &&& 31))) ((app u (u.1 1 1 >>> (cI 8 &&& 31))).1 1 1)).1 1 = s.1 1 := (app_ne (by decide) (by decide)).trans v1
    have w2 : (app (app u (u.1 1 1 >>> (cI 8 &&& 31))) ((app u (u.1 1 1 >>> (cI 8 &&& 31))).1 1 1)).1 2 = s.1 2 := (app_ne (by decide) (by decide)).trans v2
    have h91 := apr_h91 (num := 0) (ix (s.1 1 1)) (1048575 - ix (s.1 1 1)) (s := app (app u (u.1 1 1 >>> (cI 8 &&& 31))) ((app u (u.1 1 1 >>> (cI 8 &&& 31))).1 1 1)) (x1 := cI 0) (by decide) (by rw [w1]; exact t1) (by rw [w1, show (cI 0).toInt = 0 from rfl]; omega) (by omega) (by omega)
    rw [show 1048575 - ix (s.1 1 1) + ix (s.1 1 1) + 1 = 1048576 by omega] at h91
    rw [h91, w2, v1, u1]
    rfl
  · rw [if_neg hr, if_neg hr]
    rfl
theorem div_toInt {x y : Int32} (h : 0 ≤ x.toInt) (h2 : 0 < y.toInt) : (x / y).toInt = x.toInt / y.toInt := by
  rw [Int32.toInt_div, Int.tdiv_eq_ediv_of_nonneg h]
  have h3 : 0 ≤ x.toInt / y.toInt := Int.ediv_nonneg h (by omega)
  have h4 : x.toInt / y.toInt ≤ x.toInt := Int.ediv_le_self _ h
  have h5 := toInt_hi x
  rw [Int.bmod_def]
  split <;> omega
theorem log_blocks {s : ev_M} {a : Int32} (h0 : 0 ≤ a.toInt) (h1 : a.toInt ≤ 1000000000) : ∃ v, fLog_blocksFor s a = some v ∧ v.toInt = (a.toInt + 247) / 248 := by
  have e248 : (cI 248).toInt = 248 := rfl
  have e1 : (cI 1).toInt = 1 := rfl
  refine ⟨((a + cI 248) - cI 1) / cI 248, ?_, ?_⟩
  · unfold fLog_blocksFor
    rw [if_neg (by decide)]
  · have a1 : (a + cI 248).toInt = a.toInt + 248 := by rw [add_toInt (by omega) (by omega), e248]
    have a2 : ((a + cI 248) - cI 1).toInt = a.toInt + 247 := by rw [sub_toInt (by omega) (by omega), a1, e1]; omega
    rw [div_toInt (by omega) (by omega), a2, e248]
/-- the log cells of two memories -/
def lgC (s x : ev_M) : Prop := ∀ c, 9 ≤ c → c ≤ 14 → x.1 c = s.1 c
theorem lgC_app {s x : ev_M} {v : Int32} (h : lgC s x) : lgC (app s v) (app x v) := fun c h1 h2 => by
  unfold app
  have e9 := h 9 (by decide) (by decide)
  have ec := h c h1 h2
  by_cases hc : c = 13
  · subst hc
    rw [wI_c, wI_c, wI_ne (by decide), wI_ne (by decide), ec, e9]
  · by_cases hc9 : c = 9
    · subst hc9
      rw [wI_ne (c := 13) (by decide), wI_ne (c := 13) (by decide), wI_c, wI_c, e9]
    · rw [wI_ne hc, wI_ne hc, wI_ne hc9, wI_ne hc9, ec]
theorem lgC_appL : ∀ (l : List Int32) {s x : ev_M}, lgC s x → lgC (appL l s) (appL l x)
  | [], _, _, h => h
  | _ :: l, _, _, h => lgC_appL l (lgC_app h)
theorem lgC_wI {s x : ev_M} {c k : Nat} {v : Int32} (h : lgC s x) : lgC (wI s c k v) (wI x c k v) := fun a h1 h2 => by
  by_cases hc : a = c
  · subst hc
    rw [wI_c, wI_c, h a h1 h2]
  · rw [wI_ne hc, wI_ne hc, h a h1 h2]
theorem lupd_eq {A : Nat → Nat → Int32} {x z : ev_M} (h1 : ∀ c, 9 ≤ c → c ≤ 14 → z.1 c = A c) (h2 : ∀ c, c < 9 ∨ 14 < c → z.1 c = x.1 c) (h3 : z.2 = x.2) : z = lupd A x := by
  refine Prod.ext (funext fun c => funext fun k => ?_) h3
  show z.1 c k = if 9 ≤ c ∧ c ≤ 14 then A c k else x.1 c k
  by_cases h : 9 ≤ c ∧ c ≤ 14
  · rw [if_pos h, h1 c h.1 h.2]
  · rw [if_neg h, h2 c (by omega)]
/-- the log at an act: staged on both sides -/
def RAct (s t : ev_M) : Prop := Arg41 s ∧ (t.1 549 16 = s.1 9 14 ∧ Rg 1 (s.1 9 14) 40) ∧ (t.1 549 14 = s.1 9 12) ∧ (t.1 549 4 = s.1 9 4 ∧ Rg 0 (s.1 9 4) 150) ∧ (t.1 549 9 = s.1 9 6 ∧ Rg 0 (s.1 9 6) 37200) ∧ Rg 0 (s.1 1 1) 4096 ∧ (rdT (s.1 9 14) → s.1 9 12 = 0 → t.1 549 13 = s.1 1 1)
def lgF (s : ev_M) : Bool := decide (s.1 9 12 = 0 ∧ 248 * (150 - (s.1 9 4).toInt) < (s.1 9 6).toInt + recN (s.1 9 14) (s.1 1 1))
/-- the log with the record -/
def lgR (s : ev_M) : ev_M := if s.1 9 12 = 0 then wI (appL (recB (s.1 9 14) (s.1 14) (s.1 1 1) (s.1 2)) s) 9 7 (s.1 9 7 + cI 1) else wI s 9 13 (s.1 9 13 + cI 1)
theorem recN_le {num len : Int32} (h : len.toInt ≤ 4096) : recN num len ≤ 4200 := by
  unfold recN
  have h1 := nAr_le (ix num)
  have h2 : ix len ≤ 4096 := by rw [ix_toNat]; omega
  split <;> omega
theorem log_sz {s : ev_M} (hA : Arg41 s) (g1 : 1 ≤ (s.1 9 14).toInt) (g2 : (s.1 9 14).toInt ≤ 40) : (cI 1 + cI 4 * s.1 1003 (ix (s.1 9 14))).toInt = 1 + 4 * (nAr.getD (ix (s.1 9 14)) 0 : Nat) := by
  have hl := nAr_le (ix (s.1 9 14))
  have e1 : (cI 1).toInt = 1 := rfl
  have e4 : (cI 4).toInt = 4 := rfl
  rw [hA _ (by rw [ix_toNat]; omega)]
  have en : (cI ((nAr.getD (ix (s.1 9 14)) 0 : Nat) : Int)).toInt = (nAr.getD (ix (s.1 9 14)) 0 : Nat) := cI_toInt (by omega) (by omega)
  have em : (cI 4 * cI ((nAr.getD (ix (s.1 9 14)) 0 : Nat) : Int)).toInt = 4 * (nAr.getD (ix (s.1 9 14)) 0 : Nat) := by rw [mul_toInt (by rw [en, e4]; omega) (by rw [en, e4]; omega), en, e4]
  rw [add_toInt (by rw [em, e1]; omega) (by rw [em, e1]; omega), em, e1]
theorem adm_b69 {s : ev_M} {y0 y1 : Int32} {z : Nat} (h0 : y0.toInt + y1.toInt = z) (hz : z ≤ 4200) (hy0 : 0 ≤ y0.toInt) (hy1 : 0 ≤ y1.toInt) (w0 : 0 ≤ (s.1 9 6).toInt) (w1 : (s.1 9 6).toInt ≤ 37200) (u0 : 0 ≤ (s.1 9 4).toInt) (u1 : (s.1 9 4).toInt ≤ 150) : fLog_admits_b69 s y0 y1 = if 248 * (150 - (s.1 9 4).toInt) < (s.1 9 6).toInt + z then some (s, cI 0) else bd1 (fLog_appendRecord s) fun s3 => some (wI s3 9 7 (s3.1 9 7 + cI 1), cI 1) := by
  have a1 : (y0 + y1).toInt = z := by rw [add_toInt (by omega) (by omega), h0]
  have a2 : (s.1 9 6 + (y0 + y1)).toInt = (s.1 9 6).toInt + z := by rw [add_toInt (by omega) (by omega), a1]
  obtain ⟨v, hv, hv2⟩ := log_blocks (s := s) (a := s.1 9 6 + (y0 + y1)) (by omega) (by omega)
  have e150 : (cI 150).toInt = 150 := rfl
  have a3 : (cI 150 - s.1 9 4).toInt = 150 - (s.1 9 4).toInt := by rw [sub_toInt (by omega) (by omega), e150]
  unfold fLog_admits_b69
  rw [ltI_eq, hv, bd1_some]
  by_cases h : 248 * (150 - (s.1 9 4).toInt) < (s.1 9 6).toInt + z
  · rw [if_pos h, if_neg (by rw [le_i, a3, hv2, a2]; omega)]
  · rw [if_neg h, if_pos (by rw [le_i, a3, hv2, a2]; omega)]
    rfl
theorem log_admits {s : ev_M} (hA : Arg41 s) (g1 : 1 ≤ (s.1 9 14).toInt) (g2 : (s.1 9 14).toInt ≤ 40) (u0 : 0 ≤ (s.1 9 4).toInt) (u1 : (s.1 9 4).toInt ≤ 150) (w0 : 0 ≤ (s.1 9 6).toInt) (w1 : (s.1 9 6).toInt ≤ 37200) (t0 : 0 ≤ (s.1 1 1).toInt) (t1 : (s.1 1 1).toInt ≤ 4096) : fLog_admits s = some (if lgF s = true then s else lgR s, bI (lgF s = false)) := by
  have e0 : (cI 0).toInt = 0 := rfl
  have e1 : (cI 1).toInt = 1 := rfl
  have e2 : (cI 2).toInt = 2 := rfl
  have e40 : (cI 40).toInt = 40 := rfl
  unfold fLog_admits
  by_cases ha : s.1 9 12 = 0
  · have hin : InR (s.1 9 14) (cI 1) (cI 40) := ⟨by omega, by omega⟩
    have hb : inb (s.1 9 14) 41 = true := inb_iff.mpr ⟨by omega, by omega⟩
    have hsz := log_sz hA g1 g2
    have hl := nAr_le (ix (s.1 9 14))
    have hrl := recN_le (num := s.1 9 14) (len := s.1 1 1) t1
    have hN : recN (s.1 9 14) (s.1 1 1) = 1 + 4 * nAr.getD (ix (s.1 9 14)) 0 + (if rdT (s.1 9 14) then 2 + ix (s.1 1 1) else 0) := rfl
    have hi : (ix (s.1 1 1) : Int) = (s.1 1 1).toInt := ix_int t0
    have al : (cI 2 + s.1 1 1).toInt = 2 + (s.1 1 1).toInt := by rw [add_toInt (by omega) (by omega), e2]
    rw [if_pos ha, outside_eq, bd1_some, ite_bI, if_neg (fun z => z hin), if_pos hb, log_reads, bd1_some, ite_bI]
    have key : ∀ y1 : Int32, y1.toInt = (if rdT (s.1 9 14) then 2 + ix (s.1 1 1) else 0 : Nat) → fLog_admits_b69 s (cI 1 + cI 4 * s.1 1003 (ix (s.1 9 14))) y1 = some (if lgF s = true then s else lgR s, bI (lgF s = false)) := fun y1 hy => by
      rw [adm_b69 (z := recN (s.1 9 14) (s.1 1 1)) (by omega) (by omega) (by omega) (by omega) w0 w1 u0 u1]
      by_cases hf : 248 * (150 - (s.1 9 4).toInt) < (s.1 9 6).toInt + recN (s.1 9 14) (s.1 1 1)
      · have hF : lgF s = true := decide_eq_true ⟨ha, hf⟩
        rw [if_pos hf, if_pos hF, bI_f (by rw [hF]; decide)]
        rfl
      · have hF : lgF s = false := decide_eq_false (fun z => hf z.2)
        rw [if_neg hf, if_neg (by rw [hF]; decide), bI_t hF, log_record hA g1 g2 t0 t1 w0 (by omega), bd1_some]
        unfold lgR
        rw [if_pos ha, appL_9 (by decide)]
        rfl
    by_cases hr : rdT (s.1 9 14)
    · rw [if_pos hr]
      exact key _ (by rw [if_pos hr, al]; omega)
    · rw [if_neg hr]
      exact key _ (by rw [if_neg hr]; rfl)
  · have hF : lgF s = false := decide_eq_false (fun z => ha z.1)
    rw [if_neg ha, if_neg (by rw [hF]; decide), bI_t hF]
    unfold lgR
    rw [if_neg ha]
    rfl
theorem lgR_L {s : ev_M} : (lgR s).2 = s.2 := by
  unfold lgR
  split
  · exact appL_L _
  · rfl
theorem lgR_ne {s : ev_M} {c : Nat} (h : c < 9 ∨ 14 < c) : (lgR s).1 c = s.1 c := by
  unfold lgR
  split
  · rw [wI_ne (by omega), appL_ne (by omega) (by omega)]
  · rw [wI_ne (by omega)]
theorem RAct.adm {s t : ev_M} (h : RAct s t) : AdmC s (lgF s) (lgR s).1 := by
  obtain ⟨hA, ⟨-, g1, g2⟩, -, ⟨-, u0, u1⟩, ⟨-, w0, w1⟩, ⟨t0, t1⟩, -⟩ := h
  intro x hx
  obtain ⟨x1, x2, x3, x4⟩ := hx
  have e9 : x.1 9 = s.1 9 := x1 9 (by decide) (by decide)
  have e14 : x.1 14 = s.1 14 := x1 14 (by decide) (by decide)
  have hF : lgF x = lgF s := by unfold lgF; rw [e9, x2]
  rw [log_admits (s := x) (fun j hj => (congrFun (x4 1003 (by decide)) j).trans (hA j hj)) (by rw [e9]; exact g1) (by rw [e9]; exact g2) (by rw [e9]; exact u0) (by rw [e9]; exact u1) (by rw [e9]; exact w0) (by rw [e9]; exact w1) (by rw [x2]; exact t0) (by rw [x2]; exact t1), hF]
  by_cases hf : lgF s = true
  · rw [if_pos hf, if_pos hf]
  · rw [if_neg hf, if_neg hf]
    have e : lgR x = lupd (lgR s).1 x := by
      refine lupd_eq (fun c h1 h2 => ?_) (fun c hc => lgR_ne hc) lgR_L
      have hc : lgC s x := x1
      unfold lgR
      rw [e9, e14, x2, x3]
      split
      · exact lgC_wI (lgC_appL _ hc) c h1 h2
      · exact lgC_wI hc c h1 h2
    rw [e]
theorem m_full {t : ev_M} (g1 : 1 ≤ (t.1 549 16).toInt) (g2 : (t.1 549 16).toInt ≤ 40) (u0 : 0 ≤ (t.1 549 4).toInt) (u1 : (t.1 549 4).toInt ≤ 150) (w0 : 0 ≤ (t.1 549 9).toInt) (w1 : (t.1 549 9).toInt ≤ 37200) {len : Int32} (t0 : 0 ≤ len.toInt) (t1 : len.toInt ≤ 4096) (hl : rdT (t.1 549 16) → t.1 549 14 = 0 → t.1 549 13 = len) : fM_full t = some (bI (t.1 549 14 = 0 ∧ 248 * (150 - (t.1 549 4).toInt) < (t.1 549 9).toInt + recN (t.1 549 16) len)) := by
  have e0 : (cI 0).toInt = 0 := rfl
  have e1 : (cI 1).toInt = 1 := rfl
  have e2 : (cI 2).toInt = 2 := rfl
  have e4 : (cI 4).toInt = 4 := rfl
  have e150 : (cI 150).toInt = 150 := rfl
  have e248 : (cI 248).toInt = 248 := rfl
  have hn := nAr_le (ix (t.1 549 16))
  have hrl := recN_le (num := t.1 549 16) (len := len) t1
  have hN : recN (t.1 549 16) len = 1 + 4 * nAr.getD (ix (t.1 549 16)) 0 + (if rdT (t.1 549 16) then 2 + ix len else 0) := rfl
  have hi : (ix len : Int) = len.toInt := ix_int t0
  have en : (cI ((nAr.getD (ix (t.1 549 16)) 0 : Nat) : Int)).toInt = (nAr.getD (ix (t.1 549 16)) 0 : Nat) := cI_toInt (by omega) (by omega)
  have em : (cI 4 * cI ((nAr.getD (ix (t.1 549 16)) 0 : Nat) : Int)).toInt = 4 * (nAr.getD (ix (t.1 549 16)) 0 : Nat) := by rw [mul_toInt (by rw [en, e4]; omega) (by rw [en, e4]; omega), en, e4]
  have ea : (cI 1 + cI 4 * cI ((nAr.getD (ix (t.1 549 16)) 0 : Nat) : Int)).toInt = 1 + 4 * (nAr.getD (ix (t.1 549 16)) 0 : Nat) := by rw [add_toInt (by rw [em, e1]; omega) (by rw [em, e1]; omega), em, e1]
  unfold fM_full
  rw [m_args g1 g2, bd1_some, m_reads, bd1_some, ite_bI]
  have key : ∀ y1 : Int32, (t.1 549 14 = 0 → y1.toInt = (if rdT (t.1 549 16) then 2 + ix len else 0 : Nat)) → fM_full_b31 t (cI 1 + cI 4 * cI ((nAr.getD (ix (t.1 549 16)) 0 : Nat) : Int)) y1 = some (bI (t.1 549 14 = 0 ∧ 248 * (150 - (t.1 549 4).toInt) < (t.1 549 9).toInt + recN (t.1 549 16) len)) := fun y1 hy => by
    unfold fM_full_b31
    rw [ltI_eq]
    by_cases hr : t.1 549 14 = 0
    · have hy := hy hr
      have hsum : (cI 1 + cI 4 * cI ((nAr.getD (ix (t.1 549 16)) 0 : Nat) : Int) + y1).toInt = recN (t.1 549 16) len := by rw [add_toInt (by omega) (by omega)]; omega
      have a2 : (t.1 549 9 + (cI 1 + cI 4 * cI ((nAr.getD (ix (t.1 549 16)) 0 : Nat) : Int) + y1)).toInt = (t.1 549 9).toInt + recN (t.1 549 16) len := by rw [add_toInt (by omega) (by omega), hsum]
      have a3 : (t.1 549 9 + (cI 1 + cI 4 * cI ((nAr.getD (ix (t.1 549 16)) 0 : Nat) : Int) + y1) + cI 248).toInt = (t.1 549 9).toInt + recN (t.1 549 16) len + 248 := by rw [add_toInt (by omega) (by omega), a2, e248]
      have a4 : ((t.1 549 9 + (cI 1 + cI 4 * cI ((nAr.getD (ix (t.1 549 16)) 0 : Nat) : Int) + y1) + cI 248) - cI 1).toInt = (t.1 549 9).toInt + recN (t.1 549 16) len + 247 := by rw [sub_toInt (by omega) (by omega), a3, e1]; omega
      have a5 : (((t.1 549 9 + (cI 1 + cI 4 * cI ((nAr.getD (ix (t.1 549 16)) 0 : Nat) : Int) + y1) + cI 248) - cI 1) / cI 248).toInt = ((t.1 549 9).toInt + recN (t.1 549 16) len + 247) / 248 := by rw [div_toInt (by omega) (by omega), a4, e248]
      have a6 : (cI 150 - t.1 549 4).toInt = 150 - (t.1 549 4).toInt := by rw [sub_toInt (by omega) (by omega), e150]
      rw [if_pos hr, if_neg (by decide)]
      by_cases hf : 248 * (150 - (t.1 549 4).toInt) < (t.1 549 9).toInt + recN (t.1 549 16) len
      · rw [if_neg (by rw [le_i, a5, a6]; omega), bI_t ⟨hr, hf⟩]
        rfl
      · rw [if_pos (by rw [le_i, a5, a6]; omega), bI_f (fun z => hf z.2)]
        rfl
    · rw [if_neg hr, bI_f (fun z => hr z.1)]
      rfl
  by_cases hr : rdT (t.1 549 16)
  · rw [if_pos hr]
    refine key _ (fun h => ?_)
    rw [hl hr h, if_pos hr, add_toInt (by omega) (by omega), e2]; omega
  · rw [if_neg hr]
    exact key _ (fun _ => by rw [if_neg hr]; rfl)
theorem RAct.ful {s t : ev_M} (h : RAct s t) : FulM t (lgF s) := by
  obtain ⟨hA, ⟨a1, g1, g2⟩, a2, ⟨a3, u0, u1⟩, ⟨a4, w0, w1⟩, ⟨t0, t1⟩, a5⟩ := h
  intro y hy
  obtain ⟨y1, y2, y3, y4, y5⟩ := hy
  rw [m_full (t := y) (len := s.1 1 1) (by rw [y5, a1]; exact g1) (by rw [y5, a1]; exact g2) (by rw [y1, a3]; exact u0) (by rw [y1, a3]; exact u1) (by rw [y2, a4]; exact w0) (by rw [y2, a4]; exact w1) t0 t1 (fun z1 z2 => by rw [y5, a1] at z1; rw [y4, a2] at z2; rw [y3]; exact a5 z1 z2), y1, y2, y4, y5, a1, a2, a3, a4]
  unfold lgF
  exact congrArg some (bI_congr (by rw [decide_eq_true_iff]))
