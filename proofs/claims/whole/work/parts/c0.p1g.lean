/-! ===== LEVEL 3: machine, device and tick on a fresh house ===== -/
section
variable {xs : Nat → Int32} {L : Nat} {m : ev_M}
theorem I0_mch (h : I0 xs L m) : RMch m m := by
  obtain ⟨-, -, -, -, ⟨-, -, -, -, -, -, -, -, -, -, -, c0, c1, c2, c3, -⟩, -, -, -, -, -, -, -, -, -, m0, m1, m2, m3⟩ := h
  refine ⟨⟨by rw [c0, m0]; rfl, by rw [c0]; exact ⟨by decide, by decide⟩⟩, ⟨by rw [c1, m1]; rfl, by rw [c1]; exact ⟨by decide, by decide⟩⟩, by rw [c2, m2]; rfl, ⟨by rw [c3, m3]; rfl, by rw [c3]; exact ⟨by decide, by decide⟩⟩⟩
theorem I0_tim (h : I0 xs L m) : RTim m m := by
  have z22 : m.1 549 22 = 0 := I0_m h rfl
  obtain ⟨-, -, -, -, ⟨c1, -, -, -, -, -, -, -, -, -, -, -, -, -, -, -, -, -, c29, -⟩, -, -, -, -, -, -, m47, -⟩ := h
  refine ⟨⟨by rw [z22, c1], by rw [c1]; exact ⟨by decide, by decide⟩⟩, fun j hj => ?_, fun j hj => ?_⟩
  · rw [c29 j hj, m47 j hj]
  · rw [c29 j hj]; exact ⟨by decide, by decide⟩
theorem p1_act2 (h : I0 xs L m) {num a b c d e f : Int32} {W : ev_M → ev_M} (g1 : 1 ≤ num.toInt) (g2 : num.toInt ≤ 40) (hr : ¬ rdT num) (hW : ∀ z, fr STM z (W z)) (hWa : ∀ z, ArgE num ((stg m num a b c d e f).1 14) ((W z).1 553)) (hz : ∀ s t F A, AdmC s F A → FulM t F → t.1 549 15 = 0 → Cz s → Mz t → fr STG m s → fr (CLF ++ STM) m t → s.1 9 14 = num → t.1 549 16 = num → ArgE num (s.1 14) (t.1 553) → Ok (fPH_act_1 s) fun x => Ok (fM_act t) fun y => AP R9 R9 F A s x y) : Ok (clC m num a b c d e f) fun x => Ok (fM_call (W x.1) num) fun y => x.2 = y.2 := by
  have h1 := call_nr (R0 := R9) (R1 := R9) g1 g2 hr (I0_log h) (by rw [(I0_t h).1]; exact ⟨by decide, by decide⟩) hW hWa (fun _ _ _ _ _ => trivial) (fun u t1 F A hu ht h16 ha h15 hA hM => hz _ _ F A hA hM h15 (Cz_stg (I0_C h)) (Mz_st (I0_M h) hu ht) stg_fr ((hu.mono (contains_of fun q hq => List.mem_append_left _ hq)).tr (ht.mono (contains_of fun q hq => List.mem_append_right _ hq))) stg_14 h16 ha)
  exact h1.mono fun x hx => hx.mono fun z hz => hz.1
theorem ar_q {num : Int32} {s t : ev_M} (h : ArgE num (s.1 14) (t.1 553)) {k : Nat} (hk : k < nAr.getD (ix num) 0) : s.1 14 k = t.1 553 k := (h k hk).symm
theorem p1_29 (h : I0 xs L m) : LC_29 (P1 m) m := by
  unfold LC_29
  intro a b c d
  refine p1_call (fun q h => fr_fPH_machine h) (fun z q h => fr_fM_machine h) (by decide +kernel) (by decide +kernel) ?_
  simp only [ec_10, em_10]
  refine p1_act2 h (by decide) (by decide) (by decide) (fun z => ef_10) (fun z => eg_10) (fun s t F A hA hM h15 hc hm hs ht h1 h2 ha => ?_)
  rw [dc_10 h1, dm_10 h2, ar_q ha (k := 0) (by decide), ar_q ha (k := 1) (by decide), ar_q ha (k := 2) (by decide), ar_q ha (k := 3) (by decide)]
  exact (a_machine hA hM h15 ((I0_mch h).keep hs ht (by decide +kernel) (by decide +kernel))).mono fun x hx => hx.mono fun y hy => hy.mo
theorem p1_67 (h : I0 xs L m) : LC_67 (P1 m) m := by
  unfold LC_67
  intro a b
  refine p1_call (fun q h => fr_fPH_device h) (fun z q h => fr_fM_device h) (by decide +kernel) (by decide +kernel) ?_
  simp only [ec_37, em_37]
  refine p1_act2 h (by decide) (by decide) (by decide) (fun z => ef_37) (fun z => eg_37) (fun s t F A hA hM h15 hc hm hs ht h1 h2 ha => ?_)
  rw [dc_37 h1, dm_37 h2, ar_q ha (k := 0) (by decide), ar_q ha (k := 1) (by decide)]
  exact (a_device hA hM h15 ((I0_tim h).keep hs ht (by decide +kernel) (by decide +kernel))).mono fun x hx => hx.mono fun y hy => hy.mo
theorem p1_72 (h : I0 xs L m) : LC_72 (P1 m) m := by
  unfold LC_72
  intro a
  refine p1_call (fun q h => fr_fPH_tick h) (fun z q h => fr_fM_tick h) (by decide +kernel) (by decide +kernel) ?_
  simp only [ec_40, em_40]
  refine p1_act2 h (by decide) (by decide) (by decide) (fun z => ef_40) (fun z => eg_40) (fun s t F A hA hM h15 hc hm hs ht h1 h2 ha => ?_)
  rw [dc_40 h1, dm_40 h2, ar_q ha (k := 0) (by decide)]
  obtain ⟨⟨r1, -⟩, -⟩ := (I0_tim h).keep hs ht (by decide +kernel) (by decide +kernel)
  have z1 : s.1 15 1 = 0 := by rw [(hs.1 15 1 rfl).1]; exact h.2.2.2.2.1.1
  exact z9_40 hA hM h15 hc hm z1 (r1.trans z1)
end
