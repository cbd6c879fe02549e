/-! ===== LEVEL 3: events: an event into an item's chain ===== -/
theorem Chn.congr {nx nx' : Nat → Int32} : ∀ {l : List Nat} {a : Int32}, Chn nx a l → (∀ x, x ∈ l → nx' x = nx x) → Chn nx' a l
  | [], _, h, _ => h
  | e :: l, _, h, k => ⟨h.1, by
      rw [k e (by simp)]
      exact Chn.congr h.2 (fun x hx => k x (by simp [hx]))⟩
/-- the first of a list, -1 of none -/
def hdI : List Nat → Int32
  | [] => cI (-1)
  | e :: _ => cI (e : Int)
theorem Chn.hd {nx : Nat → Int32} : ∀ {l : List Nat} {a : Int32}, Chn nx a l → a = hdI l
  | [], _, h => h
  | _ :: _, _, h => h.1
theorem lstI_nil : lstI [] = cI (-1) := rfl
theorem lstI_end {l : List Nat} {e : Nat} : lstI (l ++ [e]) = cI (e : Int) := by
  unfold lstI
  rw [List.getLast?_append]
  simp
theorem lstI_mid {l r : List Nat} {e : Nat} : lstI (l ++ e :: r) = if r = [] then cI (e : Int) else lstI (l ++ r) := by
  cases r with
  | nil => rw [if_pos rfl]; exact lstI_end
  | cons y r =>
    rw [if_neg (by simp)]
    unfold lstI
    rw [List.getLast?_append, List.getLast?_append]
    simp [List.getLast?_cons_cons]
/-- e between l1 and l2 -/
theorem Chn.ins {nx nx' : Nat → Int32} {e : Nat} {l2 : List Nat} (he : nx' e = hdI l2) (h2 : ∀ x, x ∈ l2 → nx' x = nx x) : ∀ {l1 : List Nat} {a : Int32}, Chn nx a (l1 ++ l2) → l1.Nodup → (∀ x, x ∈ l1 → nx' x = if l1.getLast? = some x then cI (e : Int) else nx x) → Chn nx' (if l1 = [] then cI (e : Int) else a) (l1 ++ e :: l2)
  | [], a, h, _, _ => by
    rw [if_pos rfl]
    refine ⟨rfl, ?_⟩
    rw [he]
    have h : Chn nx a l2 := h
    rw [← h.hd]
    exact h.congr h2
  | [x], a, h, _, k => by
    rw [if_neg (by simp)]
    refine ⟨h.1, ?_⟩
    have kx := k x (by simp)
    rw [if_pos (by simp)] at kx
    rw [kx]
    refine ⟨rfl, ?_⟩
    rw [he]
    have h3 : Chn nx (nx x) l2 := h.2
    rw [← h3.hd]
    exact h3.congr h2
  | x :: y :: l, a, h, hn, k => by
    rw [if_neg (by simp)]
    refine ⟨h.1, ?_⟩
    have hn1 := List.nodup_cons.mp hn
    have kx := k x (by simp)
    have kl : (x :: y :: l).getLast? = (y :: l).getLast? := by simp [List.getLast?_cons_cons]
    rw [kl] at kx
    rw [if_neg (fun q => hn1.1 (List.mem_of_getLast? q))] at kx
    have r := Chn.ins he h2 (l1 := y :: l) (a := nx x) h.2 hn1.2 (fun z hz => by
      have := k z (List.mem_cons_of_mem _ hz)
      rw [kl] at this
      exact this)
    rw [if_neg (by simp)] at r
    rw [kx]
    exact r
theorem evL.trans {f : Nat → Int32} {a b c : Nat} (h : evL f a b) (k : evL f b c) : evL f a c := by
  unfold evL at *; omega
theorem evL.ne {f : Nat → Int32} {a b : Nat} (h : evL f a b) : a ≠ b := by
  intro e
  subst e
  unfold evL at h; omega
theorem evl_nodup {f : Nat → Int32} {l : List Nat} (h : l.Pairwise (evL f)) : l.Nodup := h.imp evL.ne
theorem cI_n1 {e : Nat} (h : e < 2147483648) : ¬ cI (e : Int) = cI (-1) := fun w => neg1_ne h w.symm
theorem lstI_m {l : List Nat} {e : Nat} (h : l.getLast? = some e) : lstI l = cI (e : Int) := by
  unfold lstI; rw [h]
/-- the end of keep: the event between what lies before it and behind it -/
theorem keep_put {m : ev_M} {i : Int32} {e : Nat} {nx : Nat → Int32} {l1 l2 : List Nat} (hi : inb i 300 = true) (he : e < 5000) (hl : ∀ x, x ∈ l1 ++ l2 → x < e) (hd : (l1 ++ l2).Nodup) (hc : Chn nx (m.1 20 (ix i)) (l1 ++ l2)) (h1 : m.1 21 (ix i) = lstI (l1 ++ l2)) (h2 : m.1 22 = up1 nx e (hdI l2)) : ∃ m', fChron_keep_b158 m i (cI (e : Int)) (lstI l1) = some m' ∧ Chn (m'.1 22) (m'.1 20 (ix i)) (l1 ++ e :: l2) ∧ m'.1 21 (ix i) = lstI (l1 ++ e :: l2) ∧ (∀ j, j ≠ ix i → m'.1 20 j = m.1 20 j ∧ m'.1 21 j = m.1 21 j) ∧ (∀ x, x ≠ e → x ∉ l1 → m'.1 22 x = nx x) ∧ (∀ c, c < 20 → m'.1 c = m.1 c) := by
  have be : inb (cI (e : Int)) 5000 = true := inb_iff.mpr ⟨by rw [cI_toInt (by omega) (by omega)]; omega, by rw [cI_toInt (by omega) (by omega)]; omega⟩
  have ee : ix (cI (e : Int)) = e := ix_n e (by omega)
  have hd1 : l1.Nodup := (List.nodup_append.mp hd).1
  have k2 : ∀ x, x ∈ l2 → x ≠ e := fun x hx => Nat.ne_of_lt (hl x (by simp [hx]))
  -- the second half
  have tail : ∀ (w : ev_M), w.1 22 e = hdI l2 → w.1 21 (ix i) = lstI (l1 ++ l2) → ∃ m', fChron_keep_b184 w i (cI (e : Int)) = some m' ∧ m'.1 21 (ix i) = lstI (l1 ++ e :: l2) ∧ (∀ j, j ≠ ix i → m'.1 21 j = w.1 21 j) ∧ (∀ c, c ≠ 21 → m'.1 c = w.1 c) := by
    intro w w1 w2
    cases l2 with
    | nil =>
      refine ⟨wI w 21 (ix i) (cI (e : Int)), ?_, ?_, ?_, ?_⟩
      · simp only [fChron_keep_b184, be, ee, w1, hdI, if_true, hi, ltM_eq]
      · rw [wI_c, up1_eq, lstI_end]
      · intro j hj
        rw [wI_c, up1_ne hj]
      · intro c hc
        exact wI_ne hc
    | cons y l =>
      have hy : y < 5000 := by have := hl y (by simp); omega
      refine ⟨w, ?_, ?_, fun _ _ => rfl, fun _ _ => rfl⟩
      · simp only [fChron_keep_b184, be, ee, w1, hdI, if_true, cI_n1 (show y < 2147483648 by omega), if_false]
      · rw [w2, lstI_mid (l := l1) (e := e) (r := y :: l), if_neg (by simp)]
  by_cases hq : l1 = []
  · subst hq
    obtain ⟨m', f1, f2, f3, f4⟩ := tail (wI m 20 (ix i) (cI (e : Int))) (by rw [wI_ne (by decide), h2, up1_eq]) (by rw [wI_ne (by decide)]; exact h1)
    have g22 : m'.1 22 = up1 nx e (hdI l2) := by rw [f4 22 (by decide), wI_ne (by decide), h2]
    have g20 : m'.1 20 = up1 (m.1 20) (ix i) (cI (e : Int)) := by rw [f4 20 (by decide), wI_c]
    refine ⟨m', ?_, ?_, f2, fun j hj => ⟨?_, ?_⟩, fun x hx _ => ?_, fun c hc => ?_⟩
    · rw [lstI_nil]
      simp only [fChron_keep_b158, if_true, hi, ltM_eq]
      exact f1
    · have r := Chn.ins (nx' := up1 nx e (hdI l2)) (e := e) up1_eq (fun x hx => up1_ne (k2 x hx)) (l1 := []) hc (by simp) (by simp)
      rw [g22, g20, up1_eq]
      exact r
    · rw [g20, up1_ne hj]
    · rw [f3 j hj, wI_ne (by decide)]
    · rw [g22, up1_ne hx]
    · rw [f4 c (by omega), wI_ne (by omega)]
  · obtain ⟨z, hz⟩ : ∃ z, l1.getLast? = some z := by
      cases h : l1.getLast? with
      | none => exact absurd (List.getLast?_eq_none_iff.mp h) hq
      | some z => exact ⟨z, rfl⟩
    have hzm := List.mem_of_getLast? hz
    have hze : z < e := hl z (by simp [hzm])
    have bz : inb (cI (z : Int)) 5000 = true := inb_iff.mpr ⟨by rw [cI_toInt (by omega) (by omega)]; omega, by rw [cI_toInt (by omega) (by omega)]; omega⟩
    have ez : ix (cI (z : Int)) = z := ix_n z (by omega)
    obtain ⟨m', f1, f2, f3, f4⟩ := tail (wI m 22 z (cI (e : Int))) (by rw [wI_c, up1_ne (by omega), h2, up1_eq]) (by rw [wI_ne (by decide)]; exact h1)
    have g22 : m'.1 22 = up1 (up1 nx e (hdI l2)) z (cI (e : Int)) := by rw [f4 22 (by decide), wI_c, h2]
    have g20 : m'.1 20 = m.1 20 := by rw [f4 20 (by decide), wI_ne (by decide)]
    have hz2 : z ∉ l2 := fun q => (List.nodup_append.mp hd).2.2 z hzm z q rfl
    refine ⟨m', ?_, ?_, f2, fun j hj => ⟨?_, ?_⟩, fun x hx hx1 => ?_, fun c hc => ?_⟩
    · rw [lstI_m hz]
      simp only [fChron_keep_b158, cI_n1 (show z < 2147483648 by omega), if_false, bz, ez, if_true, ltM_eq]
      exact f1
    · have r := Chn.ins (nx' := up1 (up1 nx e (hdI l2)) z (cI (e : Int))) (e := e) (by rw [up1_ne (by omega), up1_eq]) (fun x hx => by rw [up1_ne (show x ≠ z from fun q => hz2 (q ▸ hx)), up1_ne (k2 x hx)]) hc hd1 (fun x hx => by
        by_cases q : x = z
        · rw [q, up1_eq, if_pos hz]
        · rw [up1_ne q, if_neg (fun w => q (Option.some.inj (w.symm.trans hz))), up1_ne (Nat.ne_of_lt (hl x (by simp [hx])))])
      rw [if_neg hq] at r
      rw [g22, g20]
      exact r
    · rw [g20]
    · rw [f3 j hj, wI_ne (by decide)]
    · rw [g22, up1_ne (show x ≠ z from fun q => hx1 (q ▸ hzm)), up1_ne hx]
    · rw [f4 c (by omega), wI_ne (by omega)]
/-- the walk along the chain to where an event belongs -/
theorem keep_walk {m : ev_M} {i w e : Int32} {nx : Nat → Int32} (hn : nx = m.1 22) (h0 : 0 ≤ e.toInt) (h5 : e.toInt ≤ 5000) : ∀ (r d : List Nat) (n : Nat) (x k : Int32), Chn nx x r → k.toInt = d.length → (d ++ r).length ≤ e.toInt → (∀ z, z ∈ d ++ r → z < 5000) → (∀ z, z ∈ d → (m.1 19 z).toInt ≤ w.toInt) → r.length < n → ∃ d' r', d ++ r = d' ++ r' ∧ (∀ z, z ∈ d' → (m.1 19 z).toInt ≤ w.toInt) ∧ (∀ z, r'.head? = some z → w.toInt < (m.1 19 z).toInt) ∧ fChron_keep_h103 n m i w e (lstI d) x k = fChron_keep_b149 m i e (lstI d') (hdI r')
  | r, d, 0, x, k, _, _, _, _, _, hf => absurd hf (Nat.not_lt_zero _)
  | [], d, n + 1, x, k, hc, hk, hl, hb, hd, hf => by
    have hx : x = cI (-1) := hc
    refine ⟨d, [], rfl, hd, by simp, ?_⟩
    subst hx
    simp only [fChron_keep_h103, if_true, hdI, ite_self]
  | y :: r, d, n + 1, x, k, hc, hk, hl, hb, hd, hf => by
    have hx : x = cI (y : Int) := hc.1
    have hy : y < 5000 := hb y (by simp)
    have b1 : inb (cI (y : Int)) 5000 = true := inb_iff.mpr ⟨by rw [cI_toInt (by omega) (by omega)]; omega, by rw [cI_toInt (by omega) (by omega)]; omega⟩
    have e1 : ix (cI (y : Int)) = y := ix_n y (by omega)
    have hl2 : (d ++ y :: r).length = d.length + (r.length + 1) := by simp
    have hk2 : k < e := by rw [lt_i]; omega
    subst hx
    by_cases q : m.1 19 y ≤ w
    · have q2 : (m.1 19 y).toInt ≤ w.toInt := le_i.mp q
      obtain ⟨d', r', f1, f2, f3, f4⟩ := keep_walk (i := i) hn h0 h5 r (d ++ [y]) n (nx y) (k + cI 1) hc.2 (by rw [inc_i (by omega)]; simp; omega) (by simpa using hl) (fun z hz => hb z (by simpa using hz)) (fun z hz => by
        rcases List.mem_append.mp hz with g | g
        · exact hd z g
        · rw [List.mem_singleton.mp g]; exact q2) (by simp at hf; omega)
      refine ⟨d', r', by rw [← f1]; simp, f2, f3, ?_⟩
      rw [← f4, lstI_end, hn]
      simp only [fChron_keep_h103, if_pos hk2, cI_n1 (show y < 2147483648 by omega), if_false, b1, e1, if_true, ix_2, Nat.reduceAdd, if_pos q, ltI_eq]
    · have q2 : w.toInt < (m.1 19 y).toInt := by rw [le_i] at q; omega
      refine ⟨d, y :: r, rfl, hd, fun z hz => ?_, ?_⟩
      · have : y = z := by simpa using hz
        rw [← this]; exact q2
      · simp only [fChron_keep_h103, if_pos hk2, cI_n1 (show y < 2147483648 by omega), if_false, b1, e1, if_true, ix_2, Nat.reduceAdd, if_neg q, hdI]
