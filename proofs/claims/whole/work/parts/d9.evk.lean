/-! ===== LEVEL 3: one event more, class and reference ===== -/
theorem up1_up1 {f : Nat → Int32} {k : Nat} {x y : Int32} : up1 (up1 f k x) k y = up1 f k y := by
  funext b
  unfold up1
  split <;> rfl
theorem kept_lt {x : Int32} {N : Nat} (h : ix x < N) : kept x N = ix x := if_pos h
theorem kept_ge {x : Int32} {N : Nat} (h : ¬ ix x < N) : kept x N = N := if_neg h
theorem kept_in {x y : Int32} {N : Nat} (h : ix x < N) (e : ix y = ix x + 1) : kept y N = ix x + 1 := by
  unfold kept
  rw [e]
  split <;> omega
theorem keep_at {s : ev_M} {i so pl wh : Int32} {l : List Nat} (h0 : 0 ≤ (s.1 15 2).toInt) (hx : s.1 15 2 < cI 5000) (hi : inb i 300 = true) (hc : Chn (s.1 22) (s.1 20 (ix i)) l) (hl : s.1 21 (ix i) = lstI l) (hp : l.Pairwise (evL (s.1 19))) (hn : l.length ≤ ix (s.1 15 2)) (hb : ∀ z, z ∈ l → z < ix (s.1 15 2)) : ∃ d r m, l = d ++ r ∧ (∀ z, z ∈ d → (s.1 19 z).toInt ≤ wh.toInt) ∧ (∀ z, r.head? = some z → wh.toInt < (s.1 19 z).toInt) ∧ fChron_keep s i so pl wh = fChron_keep_b158 m i (s.1 15 2) (lstI d) ∧ m.1 22 = up1 (s.1 22) (ix (s.1 15 2)) (hdI r) ∧ ∀ c, c ≠ 22 → m.1 c = (wI (wI (wI (wI s 15 2 (s.1 15 2 + cI 1)) 17 (ix (s.1 15 2)) so) 18 (ix (s.1 15 2)) pl) 19 (ix (s.1 15 2)) wh).1 c := by
  have hk : (s.1 15 2).toInt < 5000 := lt_n hx
  have hbx : inb (s.1 15 2) 5000 = true := inb_iff.mpr ⟨h0, hk⟩
  have ei : ix (s.1 15 2) = (s.1 15 2).toInt.toNat := ix_toNat _
  have key : fChron_keep s i so pl wh = (let s11 := wI (wI (wI (wI (wI s 15 2 (s.1 15 2 + cI 1)) 17 (ix (s.1 15 2)) so) 18 (ix (s.1 15 2)) pl) 19 (ix (s.1 15 2)) wh) 22 (ix (s.1 15 2)) (cI (-1)); if s.1 21 (ix i) = cI (-1) then fChron_keep_b158 s11 i (s.1 15 2) (s.1 21 (ix i)) else if inb (s.1 21 (ix i)) 5000 = true then (if (s11.1 19 (ix (s.1 21 (ix i)))) ≤ wh then fChron_keep_b158 s11 i (s.1 15 2) (s.1 21 (ix i)) else fChron_keep_h103 1048576 s11 i wh (s.1 15 2) (cI (-1)) (s.1 20 (ix i)) (cI 0)) else none) := by
    simp (maxSteps := 4000000) (disch := decide) only [fChron_keep, ix_0, ix_1, ix_2, ix_3, ix_4, ix_5, ix_6, ix_7, ix_8, ix_9, ix_10, ix_11, ix_12, ix_13, ix_14, ix_15, ix_16, ix_17, ix_18, ix_19, ix_20, ix_21, Nat.reduceAdd, wI_c, wI_ne, wL_1, lupd_ne, up1_eq, up1_ne, ltM_eq, ltI_eq, if_pos hx, if_pos hbx, if_pos hi]
  rw [key]
  clear key
  have fast : ∀ (c : Nat), c ≠ 22 → (wI (wI (wI (wI (wI s 15 2 (s.1 15 2 + cI 1)) 17 (ix (s.1 15 2)) so) 18 (ix (s.1 15 2)) pl) 19 (ix (s.1 15 2)) wh) 22 (ix (s.1 15 2)) (cI (-1))).1 c = (wI (wI (wI (wI s 15 2 (s.1 15 2 + cI 1)) 17 (ix (s.1 15 2)) so) 18 (ix (s.1 15 2)) pl) 19 (ix (s.1 15 2)) wh).1 c := fun c hc => wI_ne hc
  by_cases q : l = []
  · subst q
    have q1 : s.1 21 (ix i) = cI (-1) := hl
    refine ⟨[], [], _, rfl, by simp, by simp, ?_, ?_, fast⟩
    · simp only [if_pos q1]
      rw [q1]; rfl
    · rw [wI_c]
      simp (disch := decide) only [ix_0, ix_1, ix_2, ix_3, ix_4, ix_5, ix_6, ix_7, ix_8, ix_9, ix_10, ix_11, ix_12, ix_13, ix_14, ix_15, ix_16, ix_17, ix_18, ix_19, ix_20, ix_21, Nat.reduceAdd, wI_c, wI_ne, wL_1, lupd_ne, up1_eq, up1_ne]
      rfl
  obtain ⟨z, hz⟩ : ∃ z, l.getLast? = some z := by
    cases h : l.getLast? with
    | none => exact absurd (List.getLast?_eq_none_iff.mp h) q
    | some z => exact ⟨z, rfl⟩
  have hzm := List.mem_of_getLast? hz
  have hze := hb z hzm
  have q1 : s.1 21 (ix i) = cI (z : Int) := by rw [hl, lstI_m hz]
  have bz : inb (cI (z : Int)) 5000 = true := inb_iff.mpr ⟨by rw [cI_toInt (by omega) (by omega)]; omega, by rw [cI_toInt (by omega) (by omega)]; omega⟩
  have ez : ix (cI (z : Int)) = z := ix_n z (by omega)
  have s19 : (wI (wI (wI (wI (wI s 15 2 (s.1 15 2 + cI 1)) 17 (ix (s.1 15 2)) so) 18 (ix (s.1 15 2)) pl) 19 (ix (s.1 15 2)) wh) 22 (ix (s.1 15 2)) (cI (-1))).1 19 = up1 (s.1 19) (ix (s.1 15 2)) wh := by
    simp (disch := decide) only [ix_0, ix_1, ix_2, ix_3, ix_4, ix_5, ix_6, ix_7, ix_8, ix_9, ix_10, ix_11, ix_12, ix_13, ix_14, ix_15, ix_16, ix_17, ix_18, ix_19, ix_20, ix_21, Nat.reduceAdd, wI_c, wI_ne, wL_1, lupd_ne, up1_eq, up1_ne]
  have o19 : ∀ y, y ∈ l → up1 (s.1 19) (ix (s.1 15 2)) wh y = s.1 19 y := fun y hy => up1_ne (Nat.ne_of_lt (hb y hy))
  by_cases w : s.1 19 z ≤ wh
  · refine ⟨l, [], _, by simp, fun y hy => ?_, by simp, ?_, ?_, fast⟩
    · obtain ⟨p, hp2⟩ := List.getLast?_eq_some_iff.mp hz
      rw [hp2] at hp hy
      have w2 := le_i.mp w
      rcases List.mem_append.mp hy with g | g
      · have := (List.pairwise_append.mp hp).2.2 y g z (by simp)
        unfold evL at this
        omega
      · rw [List.mem_singleton.mp g]; exact w2
    · simp only [q1, cI_n1 (show z < 2147483648 by omega), if_false, bz, ez, if_true, s19, o19 z hzm, if_pos w]
      rw [lstI_m hz]
    · rw [wI_c]
      simp (disch := decide) only [ix_0, ix_1, ix_2, ix_3, ix_4, ix_5, ix_6, ix_7, ix_8, ix_9, ix_10, ix_11, ix_12, ix_13, ix_14, ix_15, ix_16, ix_17, ix_18, ix_19, ix_20, ix_21, Nat.reduceAdd, wI_c, wI_ne, wL_1, lupd_ne, up1_eq, up1_ne]
      rfl
  · obtain ⟨d, r, f1, f2, f3, f4⟩ := keep_walk (m := wI (wI (wI (wI (wI s 15 2 (s.1 15 2 + cI 1)) 17 (ix (s.1 15 2)) so) 18 (ix (s.1 15 2)) pl) 19 (ix (s.1 15 2)) wh) 22 (ix (s.1 15 2)) (cI (-1))) (i := i) (w := wh) (e := s.1 15 2) rfl h0 (by omega) l [] 1048576 (s.1 20 (ix i)) (cI 0) (hc.congr (fun y hy => by
      rw [wI_c]
      simp (disch := decide) only [ix_0, ix_1, ix_2, ix_3, ix_4, ix_5, ix_6, ix_7, ix_8, ix_9, ix_10, ix_11, ix_12, ix_13, ix_14, ix_15, ix_16, ix_17, ix_18, ix_19, ix_20, ix_21, Nat.reduceAdd, wI_c, wI_ne, wL_1, lupd_ne, up1_eq, up1_ne]
      exact up1_ne (Nat.ne_of_lt (hb y hy)))) rfl (by rw [List.nil_append]; omega) (fun y hy => by have := hb y (by simpa using hy); omega) (by simp) (by omega)
    rw [List.nil_append] at f1
    rw [s19] at f2 f3
    refine ⟨d, r, wI (wI (wI (wI (wI (wI s 15 2 (s.1 15 2 + cI 1)) 17 (ix (s.1 15 2)) so) 18 (ix (s.1 15 2)) pl) 19 (ix (s.1 15 2)) wh) 22 (ix (s.1 15 2)) (cI (-1))) 22 (ix (s.1 15 2)) (hdI r), f1, fun y hy => ?_, fun y hy => ?_, ?_, ?_, fun c hc => (wI_ne hc).trans (fast c hc)⟩
    · have := f2 y hy
      rw [o19 y (by rw [f1]; simp [hy])] at this
      exact this
    · have := f3 y hy
      rw [o19 y (by rw [f1]; simp [List.mem_of_head? hy])] at this
      exact this
    · rw [lstI_nil] at f4
      simp only [q1, cI_n1 (show z < 2147483648 by omega), if_false, bz, ez, if_true, s19, o19 z hzm, if_neg w]
      rw [f4]
      simp only [fChron_keep_b149, if_pos hbx, ltM_eq]
    · rw [wI_c, wI_c, up1_up1]
      simp (disch := decide) only [ix_0, ix_1, ix_2, ix_3, ix_4, ix_5, ix_6, ix_7, ix_8, ix_9, ix_10, ix_11, ix_12, ix_13, ix_14, ix_15, ix_16, ix_17, ix_18, ix_19, ix_20, ix_21, Nat.reduceAdd, wI_c, wI_ne, wL_1, lupd_ne, up1_eq, up1_ne]
/-- the next event, class and reference -/
theorem ev_add {n : Nat} {s t : ev_M} {i so pl wh : Int32} (h : REv n s t) (hn : n < 2147483647) (h0 : 0 ≤ i.toInt) (h3 : i.toInt < 300) : ∃ s' t', fChron_keep s i so pl wh = some s' ∧ fM_event t i so pl wh = some t' ∧ REv (n + 1) s' t' := by
  obtain ⟨⟨c1, c2, c3⟩, g1, g2, g3, ch⟩ := h
  have hi : inb i 300 = true := inb_iff.mpr ⟨h0, h3⟩
  have xi : (s.1 15 2 + cI 1).toInt = (s.1 15 2).toInt + 1 := inc_i (by omega)
  have ex : ix (s.1 15 2 + cI 1) = ix (s.1 15 2) + 1 := ix_inc c2 (by omega)
  have ei : ix (s.1 15 2) = (s.1 15 2).toInt.toNat := ix_toNat _
  have i3 : ix i < 300 := by rw [ix_toNat]; omega
  by_cases hx : s.1 15 2 < cI 5000
  rotate_left
  · have hk : 5000 ≤ (s.1 15 2).toInt := by
      rw [lt_i, show (cI 5000).toInt = 5000 from rfl] at hx
      omega
    have k0 : kept (s.1 15 2) 5000 = 5000 := kept_ge (by omega)
    have k1 : kept (s.1 15 2 + cI 1) 5000 = 5000 := kept_ge (by omega)
    rw [k0] at g1 g2 g3 ch
    refine ⟨wI s 15 2 (s.1 15 2 + cI 1), wI t 549 129 (s.1 15 2 + cI 1), ?_, ?_, ?_⟩
    · simp only [fChron_keep, ltM_eq, ltI_eq, if_neg hx]
    · simp only [fM_event, fM_event_b51, c1, if_neg hx, ltM_eq]
    · unfold REv
      simp (disch := decide) only [ix_0, ix_1, ix_2, ix_3, ix_4, ix_5, ix_6, ix_7, ix_8, ix_9, ix_10, ix_11, ix_12, ix_13, ix_14, ix_15, ix_16, ix_17, ix_18, ix_19, ix_20, ix_21, Nat.reduceAdd, wI_c, wI_ne, wL_1, lupd_ne, up1_eq, up1_ne, k1]
      exact ⟨⟨trivial, by omega, by omega⟩, g1, g2, g3, ch⟩
  have hk : (s.1 15 2).toInt < 5000 := lt_n hx
  have hbx : inb (s.1 15 2) 5000 = true := inb_iff.mpr ⟨c2, hk⟩
  have k0 : kept (s.1 15 2) 5000 = ix (s.1 15 2) := kept_lt (by omega)
  have k1 : kept (s.1 15 2 + cI 1) 5000 = ix (s.1 15 2) + 1 := kept_in (by omega) ex
  have xc : cI ((ix (s.1 15 2) : Nat) : Int) = s.1 15 2 := cI_ix c2
  have ic : cI ((ix i : Nat) : Int) = i := cI_ix h0
  rw [k0] at g1 g2 g3
  obtain ⟨l, h1, h2, h4, h5, h6⟩ := ch (ix i) i3
  rw [k0] at h5 h6
  have hb : ∀ z, z ∈ l → z < ix (s.1 15 2) := fun z hz => ((h6 z).mp hz).1
  obtain ⟨d, r, m, f1, f2, f3, f4, f5, f6⟩ := keep_at (so := so) (pl := pl) (wh := wh) c2 hx hi h1 h2 h4 h5 hb
  have m20 : m.1 20 = s.1 20 := by rw [f6 20 (by decide)]; simp (disch := decide) only [ix_0, ix_1, ix_2, ix_3, ix_4, ix_5, ix_6, ix_7, ix_8, ix_9, ix_10, ix_11, ix_12, ix_13, ix_14, ix_15, ix_16, ix_17, ix_18, ix_19, ix_20, ix_21, Nat.reduceAdd, wI_c, wI_ne, wL_1, lupd_ne, up1_eq, up1_ne]
  have m21 : m.1 21 = s.1 21 := by rw [f6 21 (by decide)]; simp (disch := decide) only [ix_0, ix_1, ix_2, ix_3, ix_4, ix_5, ix_6, ix_7, ix_8, ix_9, ix_10, ix_11, ix_12, ix_13, ix_14, ix_15, ix_16, ix_17, ix_18, ix_19, ix_20, ix_21, Nat.reduceAdd, wI_c, wI_ne, wL_1, lupd_ne, up1_eq, up1_ne]
  subst f1
  obtain ⟨m', p1, p2, p3, p4, p5, p6⟩ := keep_put (m := m) (i := i) (e := ix (s.1 15 2)) (nx := s.1 22) (l1 := d) (l2 := r) hi (by omega) hb (evl_nodup h4) (by rw [m20]; exact h1) (by rw [m21]; exact h2) f5
  rw [xc] at p1
  have m17 : m'.1 17 = up1 (s.1 17) (ix (s.1 15 2)) so := by rw [p6 17 (by decide), f6 17 (by decide)]; simp (disch := decide) only [ix_0, ix_1, ix_2, ix_3, ix_4, ix_5, ix_6, ix_7, ix_8, ix_9, ix_10, ix_11, ix_12, ix_13, ix_14, ix_15, ix_16, ix_17, ix_18, ix_19, ix_20, ix_21, Nat.reduceAdd, wI_c, wI_ne, wL_1, lupd_ne, up1_eq, up1_ne]
  have m18 : m'.1 18 = up1 (s.1 18) (ix (s.1 15 2)) pl := by rw [p6 18 (by decide), f6 18 (by decide)]; simp (disch := decide) only [ix_0, ix_1, ix_2, ix_3, ix_4, ix_5, ix_6, ix_7, ix_8, ix_9, ix_10, ix_11, ix_12, ix_13, ix_14, ix_15, ix_16, ix_17, ix_18, ix_19, ix_20, ix_21, Nat.reduceAdd, wI_c, wI_ne, wL_1, lupd_ne, up1_eq, up1_ne]
  have m19 : m'.1 19 = up1 (s.1 19) (ix (s.1 15 2)) wh := by rw [p6 19 (by decide), f6 19 (by decide)]; simp (disch := decide) only [ix_0, ix_1, ix_2, ix_3, ix_4, ix_5, ix_6, ix_7, ix_8, ix_9, ix_10, ix_11, ix_12, ix_13, ix_14, ix_15, ix_16, ix_17, ix_18, ix_19, ix_20, ix_21, Nat.reduceAdd, wI_c, wI_ne, wL_1, lupd_ne, up1_eq, up1_ne]
  have m15 : m'.1 15 2 = s.1 15 2 + cI 1 := by rw [p6 15 (by decide), f6 15 (by decide)]; simp (disch := decide) only [ix_0, ix_1, ix_2, ix_3, ix_4, ix_5, ix_6, ix_7, ix_8, ix_9, ix_10, ix_11, ix_12, ix_13, ix_14, ix_15, ix_16, ix_17, ix_18, ix_19, ix_20, ix_21, Nat.reduceAdd, wI_c, wI_ne, wL_1, lupd_ne, up1_eq, up1_ne]
  refine ⟨m', wI (wI (wI (wI (wI t 640 (ix (s.1 15 2)) i) 641 (ix (s.1 15 2)) so) 642 (ix (s.1 15 2)) pl) 643 (ix (s.1 15 2)) wh) 549 129 (s.1 15 2 + cI 1), by rw [f4, p1], ?_, ?_⟩
  · simp (disch := decide) only [fM_event, fM_event_b51, c1, ix_0, ix_1, ix_2, ix_3, ix_4, ix_5, ix_6, ix_7, ix_8, ix_9, ix_10, ix_11, ix_12, ix_13, ix_14, ix_15, ix_16, ix_17, ix_18, ix_19, ix_20, ix_21, Nat.reduceAdd, wI_c, wI_ne, wL_1, lupd_ne, up1_eq, up1_ne, if_pos hx, if_pos hbx, ltM_eq]
  · unfold REv
    rw [m15, m17, m18, m19, k1]
    simp (disch := decide) only [ix_0, ix_1, ix_2, ix_3, ix_4, ix_5, ix_6, ix_7, ix_8, ix_9, ix_10, ix_11, ix_12, ix_13, ix_14, ix_15, ix_16, ix_17, ix_18, ix_19, ix_20, ix_21, Nat.reduceAdd, wI_c, wI_ne, wL_1, lupd_ne, up1_eq, up1_ne]
    refine ⟨⟨trivial, by omega, by omega⟩, g1.ext rfl rfl, g2.ext rfl rfl, g3.ext rfl rfl, fun j hj => ?_⟩
    by_cases y : j = ix i
    · subst y
      refine ⟨d ++ ix (s.1 15 2) :: r, p2, p3, ?_, by simp at h5 ⊢; omega, fun z => ?_⟩
      · have o : ∀ z, z ∈ d ++ r → up1 (s.1 19) (ix (s.1 15 2)) wh z = s.1 19 z := fun z hz => up1_ne (Nat.ne_of_lt (hb z hz))
        obtain ⟨q1, q2, q3⟩ := List.pairwise_append.mp h4
        have cg : ∀ a b, a ∈ d ++ r → b ∈ d ++ r → evL (s.1 19) a b → evL (up1 (s.1 19) (ix (s.1 15 2)) wh) a b := fun a b ha hb2 hv => by
          unfold evL at hv ⊢
          rw [o a ha, o b hb2]
          exact hv
        refine List.pairwise_append.mpr ⟨q1.imp_of_mem (fun {a b} ha hb2 hv => cg a b (by simp [ha]) (by simp [hb2]) hv), List.pairwise_cons.mpr ⟨fun b hb2 => ?_, q2.imp_of_mem (fun {a b} ha hb2 hv => cg a b (by simp [ha]) (by simp [hb2]) hv)⟩, fun a ha b hb2 => ?_⟩
        · unfold evL
          rw [up1_eq, o b (by simp [hb2])]
          cases r with
          | nil => cases hb2
          | cons u r =>
            have z1 := f3 u rfl
            rcases List.mem_cons.mp hb2 with g | g
            · rw [g]; exact Or.inl z1
            · have z2 := (List.pairwise_cons.mp q2).1 b g
              unfold evL at z2
              exact Or.inl (by omega)
        · rcases List.mem_cons.mp hb2 with g | g
          · rw [g]
            unfold evL
            rw [up1_eq, o a (by simp [ha])]
            have z1 := f2 a ha
            have z2 := hb a (by simp [ha])
            omega
          · exact cg a b (by simp [ha]) (by simp [g]) (q3 a ha b g)
      · rw [ic]
        by_cases w : z = ix (s.1 15 2)
        · rw [w, up1_eq]
          simp
        · rw [up1_ne w]
          have z1 := h6 z
          rw [ic] at z1
          simp only [List.mem_append, List.mem_cons] at z1 ⊢
          constructor
          · rintro (g | g | g)
            · have := z1.mp (Or.inl g); exact ⟨by omega, this.2⟩
            · exact absurd g w
            · have := z1.mp (Or.inr g); exact ⟨by omega, this.2⟩
          · intro g
            rcases z1.mpr ⟨by omega, g.2⟩ with g | g
            · exact Or.inl g
            · exact Or.inr (Or.inr g)
    · obtain ⟨lj, j1, j2, j3, j4, j5⟩ := ch j hj
      rw [k0] at j4 j5
      have bj : ∀ z, z ∈ lj → z < ix (s.1 15 2) := fun z hz => ((j5 z).mp hz).1
      obtain ⟨w1, w2⟩ := p4 j y
      rw [m20] at w1
      rw [m21] at w2
      refine ⟨lj, ?_, by rw [w2]; exact j2, ?_, by omega, fun z => ?_⟩
      · rw [w1]
        refine j1.congr (fun z hz => p5 z (Nat.ne_of_lt (bj z hz)) (fun g => ?_))
        have a1 := ((j5 z).mp hz).2
        have a2 := ((h6 z).mp (by simp [g])).2
        rw [a1, ic] at a2
        exact y (by rw [← a2, ix_n j (by omega)])
      · refine j3.imp_of_mem (fun {a b} ha hb2 hv => ?_)
        unfold evL at hv ⊢
        rw [up1_ne (Nat.ne_of_lt (bj a ha)), up1_ne (Nat.ne_of_lt (bj b hb2))]
        exact hv
      · by_cases w : z = ix (s.1 15 2)
        · rw [w, up1_eq]
          constructor
          · intro g; exact absurd (bj _ g) (by omega)
          · intro g
            exact absurd (by rw [← ix_n j (show j < 2147483648 by omega), ← g.2]) y
        · rw [up1_ne w, j5 z]
          constructor
          · intro g; exact ⟨by omega, g.2⟩
          · intro g; exact ⟨by omega, g.2⟩
