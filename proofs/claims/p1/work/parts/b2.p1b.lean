/-! ===== LEVEL 3: a fresh house: what its memory holds ===== -/
section
variable {xs : Nat → Int32} {L : Nat} {y : ev_M}
theorem I0_z (h : I0 xs L y) {c k : Nat} (hc : c < 682) (h1 : inF Fc_PH_init c k = false) (h2 : inF Fc_M_init c k = false) : y.1 c k = 0 := (h.2.2.1 c k hc h1 h2).1
theorem I0_m (h : I0 xs L y) {k : Nat} (hk : [22, 23, 24, 27, 33, 38, 43, 48, 49, 51, 58, 87, 91, 93, 101, 107, 111, 114, 119, 125, 129, 134].contains k = true) : y.1 549 k = 0 := h.2.2.2.2.2.2.2.2.2.2.2.2.1 k hk
theorem I0_arg (h : I0 xs L y) : Arg41 y := fun j hj => by
  rw [h.2.2.2.1 1003 (by decide)]
  have e : ∀ j, j < 41 → cI (l1003.getD j 0) = cI ((nAr.getD j 0 : Nat) : Int) := by decide +kernel
  exact e j hj
theorem I0_log (h : I0 xs L y) : RLog y y := by
  have z : ∀ k, inF Fc_PH_init 9 k = false → y.1 9 k = 0 := fun k hk => I0_z h (by decide) hk rfl
  have m : ∀ k, inF Fc_M_init 549 k = false → y.1 549 k = 0 := fun k hk => I0_z h (by decide) rfl hk
  have z6 : y.1 9 6 = 0 := z 6 rfl
  have z4 : y.1 9 4 = 0 := z 4 rfl
  have c10 : y.1 9 10 = -1 := h.2.2.2.2.1.2.2.2.2.2.2.2.2.2.2.1
  have m6 : y.1 549 6 = cI (-1) := h.2.2.2.2.2.2.2.2.1
  refine ⟨I0_arg h, ⟨by rw [m 5 rfl, z 9 rfl], Or.inl (z 9 rfl)⟩, ⟨by rw [m 4 rfl, z4], by rw [z4]; decide, by rw [z4]; decide⟩, ⟨by rw [m 9 rfl, z6], by rw [z6]; decide, fun i hi => ?_⟩, by rw [z6, z4]; decide, by rw [m 10 rfl, z 7 rfl], z 12 rfl, ⟨fun j _ => ?_, fun j _ => ?_, fun b _ => ?_, ⟨by rw [m6, c10]; rfl, by rw [c10]; decide, by rw [c10]; decide⟩, ⟨by rw [m 7 rfl, z 11 rfl], by rw [z 11 rfl]; decide, by rw [z 11 rfl]; decide⟩⟩⟩
  · rw [z6] at hi
    exact absurd hi (Nat.not_lt_zero i)
  · rw [I0_z h (by decide) rfl rfl, I0_z h (by decide) rfl rfl]
  · rw [I0_z h (by decide) rfl rfl]; decide
  · rw [I0_z h (by decide) rfl rfl, I0_z h (by decide) rfl rfl]
    exact ⟨rfl, Or.inl rfl⟩
theorem I0_C (h : I0 xs L y) : Cz y := ⟨I0_z h (by decide) rfl rfl, I0_z h (by decide) rfl rfl, I0_z h (by decide) rfl rfl, I0_z h (by decide) rfl rfl, I0_z h (by decide) rfl rfl, I0_z h (by decide) rfl rfl, I0_z h (by decide) rfl rfl, I0_z h (by decide) rfl rfl, I0_z h (by decide) rfl rfl, h.2.2.2.2.1.2.2.2.2.2.1, I0_z h (by decide) rfl rfl, I0_z h (by decide) rfl rfl⟩
theorem I0_M (h : I0 xs L y) : Mz y := ⟨I0_m h rfl, I0_m h rfl, I0_m h rfl, I0_m h rfl, I0_m h rfl, I0_m h rfl, I0_m h rfl, I0_m h rfl, I0_m h rfl, I0_m h rfl, I0_m h rfl, I0_m h rfl⟩
theorem I0_t (h : I0 xs L y) : y.1 1 1 = 0 ∧ y.1 549 2 = 0 := ⟨I0_z h (by decide) rfl rfl, I0_z h (by decide) rfl rfl⟩
end
theorem Cz_stg {s : ev_M} {num a b c d e f : Int32} (h : Cz s) : Cz (stg s num a b c d e f) := by
  unfold Cz at h ⊢
  rw [stg_ne (z := 30) (by decide) (by decide), stg_ne (z := 78) (by decide) (by decide), stg_ne (z := 100) (by decide) (by decide), stg_ne (z := 125) (by decide) (by decide), stg_ne (z := 138) (by decide) (by decide), stg_ne (z := 449) (by decide) (by decide)]
  exact h
theorem Mz_st {s u t : ev_M} (h : Mz s) (h1 : fr CLF s u) (h2 : fr STM u t) : Mz t := by
  have e : ∀ k, inF STM 549 k = false → t.1 549 k = s.1 549 k := fun k hk => by rw [(h2.1 549 k hk).1, (nof_c h1 clf_n (c := 549) rfl).1]
  unfold Mz at h ⊢
  rw [e 24 rfl, e 27 rfl, e 33 rfl, e 38 rfl, e 43 rfl, e 58 rfl, e 87 rfl, e 93 rfl, e 101 rfl, e 107 rfl, e 111 rfl, e 119 rfl]
  exact h
/-- what is left of a fresh house after its first call, as far as the law looks -/
def P1 (m z : ev_M) : Prop := scr m z ∧ z.2.2.2.2.1 ≤ m.2.2.2.2.1 + 4 ∧ z.2.2.2.2.2 ≤ m.2.2.2.2.2 + 64
def SCR : List (Nat × Nat) := [(1020, 0), (1021, 0)]
theorem p1_fr {F G : List (Nat × (Nat × Nat))} {m x z : ev_M} (h1 : fr F m x) (h2 : fr G x z) (n1 : nof F SCR = true) (n2 : nof G SCR = true) : scr m x ∧ P1 m z := by
  have a : x.1 1020 = m.1 1020 := (nof_c h1 n1 (c := 1020) rfl).1
  have b : x.1 1021 = m.1 1021 := (nof_c h1 n1 (c := 1021) rfl).1
  have c : z.1 1020 = x.1 1020 := (nof_c h2 n2 (c := 1020) rfl).1
  have d : z.1 1021 = x.1 1021 := (nof_c h2 n2 (c := 1021) rfl).1
  have e := h1.2
  have f := h2.2
  exact ⟨⟨a, b⟩, ⟨c.trans a, d.trans b⟩, by rw [f, e]; omega, by rw [f, e]; omega⟩
theorem p1_call {F G : List (Nat × (Nat × Nat))} {m : ev_M} {fc : Option (ev_M × Int32)} {fm : ev_M → Option (ev_M × Int32)} (h1 : ∀ q, fc = some q → fr F m q.1) (h2 : ∀ z q, fm z = some q → fr G z q.1) (n1 : nof F SCR = true) (n2 : nof G SCR = true) (h : Ok fc fun x => Ok (fm x.1) fun z => x.2 = z.2) : Ok fc fun x => scr m x.1 ∧ Ok (fm x.1) fun z => x.2 = z.2 ∧ P1 m z.1 := by
  obtain ⟨x, ex, z, ez, e⟩ := h
  obtain ⟨a, b⟩ := p1_fr (h1 x ex) (h2 _ z ez) n1 n2
  exact ⟨x, ex, a, z, ez, e, b⟩
theorem p1_ask {α : Type} {G : List (Nat × (Nat × Nat))} {m : ev_M} {fc : Option α} {fm : Option (ev_M × α)} (h2 : ∀ q, fm = some q → fr G m q.1) (n2 : nof G SCR = true) (h : Ok fc fun x => Ok fm fun z => x = z.2) : Ok fc fun x => Ok fm fun z => x = z.2 ∧ P1 m z.1 := by
  obtain ⟨x, ex, z, ez, e⟩ := h
  exact ⟨x, ex, z, ez, e, (p1_fr (F := []) (fr.rf) (h2 z ez) rfl n2).2⟩
theorem p1_act {xs : Nat → Int32} {L : Nat} {y : ev_M} (h : I0 xs L y) {num a b c d e f : Int32} {W : ev_M → ev_M} (g1 : 1 ≤ num.toInt) (g2 : num.toInt ≤ 40) (hr : ¬ rdT num) (hW : ∀ z, fr STM z (W z)) (hWa : ∀ z, ArgE num ((stg y num a b c d e f).1 14) ((W z).1 553)) (hz : ∀ s t F A, AdmC s F A → FulM t F → t.1 549 15 = 0 → Cz s → Mz t → s.1 9 14 = num → t.1 549 16 = num → ArgE num (s.1 14) (t.1 553) → Ok (fPH_act_1 s) fun x => Ok (fM_act t) fun y => AP R9 R9 F A s x y) : Ok (clC y num a b c d e f) fun x => Ok (fM_call (W x.1) num) fun y => x.2 = y.2 := by
  have h1 := call_nr (R0 := R9) (R1 := R9) g1 g2 hr (I0_log h) (by rw [(I0_t h).1]; exact ⟨by decide, by decide⟩) hW hWa (fun _ _ _ _ _ => trivial) (fun u t1 F A hu ht h16 ha h15 hA hM => hz _ _ F A hA hM h15 (Cz_stg (I0_C h)) (Mz_st (I0_M h) hu ht) stg_14 h16 ha)
  exact h1.mono fun x hx => hx.mono fun z hz => hz.1
