/-! ===== facts of the tables: classes, methods ===== -/
theorem rng_all {n : Nat} {P : Nat → Bool} (h : (List.range n).all P = true) {i : Nat} (hi : i < n) : P i = true := List.all_eq_true.mp h i (List.mem_range.mpr hi)
/-- what a method's flag says: 1 static, 2 called by its object, 3 a constructor -/
def flgOk (m : Nat) : Bool := match flgT m with
  | 1 => wl_stat.contains m && wl_code.contains m
  | 2 => wl_inst.contains m && wl_sel.contains m && wl_code.contains m && Nat.beq (datT m).2.2.2 (oclT m + 1) && Nat.ble (oclT m + 1) 13 && Nat.ble 1 (datT m).2.1
  | 3 => wl_inst.contains m && wl_code.contains m && Nat.beq (datT m).2.2.2 (oclT m + 1) && Nat.ble (oclT m + 1) 13 && Nat.ble 1 (datT m).2.1 && decide (rtyT m = none)
  | _ => true
theorem flg_ok_lt : (List.range 540).all flgOk = true := by decide +kernel
theorem flg_out {m : Nat} (h : flgT m ≠ 0) : m < 540 := by
  apply Classical.byContradiction
  intro hm
  refine h ?_
  unfold flgT
  have h1 : 22 ≤ m / 24 := by omega
  have h2 : ∀ (t : List (List Nat)) (i : Nat), t.length ≤ i → ev_nth t i = none := by
    intro t
    induction t with
    | nil => intro i _; cases i <;> rfl
    | cons a r ih =>
      intro i hi
      cases i with
      | zero => exact absurd hi (by simp)
      | succ i => exact ih i (by simpa using hi)
  by_cases h3 : m / 24 = 22
  · rw [h3]
    have h4 : 12 ≤ m % 24 := by omega
    have h5 : ∃ r, ev_nth flg_tab 22 = some r ∧ r.length = 12 := ⟨_, rfl, rfl⟩
    obtain ⟨r, h6, h7⟩ := h5
    rw [h6]
    dsimp only
    have h8 : ∀ (t : List Nat) (i : Nat), t.length ≤ i → ev_nth t i = none := by
      intro t
      induction t with
      | nil => intro i _; cases i <;> rfl
      | cons a r ih =>
        intro i hi
        cases i with
        | zero => exact absurd hi (by simp)
        | succ i => exact ih i (by simpa using hi)
    rw [h8 r _ (by omega)]
    rfl
  · rw [h2 flg_tab (m / 24) (by show 23 ≤ _; omega)]
theorem flg_ok (m : Nat) : flgOk m = true := by
  by_cases h : flgT m = 0
  · unfold flgOk
    rw [h]
    rfl
  · exact rng_all flg_ok_lt (flg_out h)
theorem ini_ok : ∀ i, i < 17 → i ≠ 13 → i ∈ wl_ini := by decide +kernel
theorem ocl_ok : (List.range 540).all (fun m => decide (flgT m = 0) || (Nat.ble (oclT m + 1) 17 && !(Nat.beq (oclT m) 13))) = true := by decide +kernel
theorem cnm_mh : ∀ i, i < 17 → cnm i ≠ "java/lang/invoke/MethodHandle" ∧ cnm i ≠ "java/lang/invoke/VarHandle" := by decide +kernel
theorem cnm_pl : ∀ i, i < 17 → i ≠ 15 → plainName (cnm i) = true := by decide +kernel
theorem cls_len : clsT.length = 13 := rfl
theorem cls_at {ci : Nat} {rr : vw_C} (h : clsT[ci]? = some rr) : ci < 13 ∧ rr = clsT.getD ci ("", fdT [], 0) := by
  have h1 := (List.getElem?_eq_some_iff.mp h).1
  refine ⟨cls_len ▸ h1, ?_⟩
  simp [List.getD, h]
theorem cls_nm : ∀ i, i < 13 → ∃ rr, clsT[i]? = some rr ∧ rr.1 = cnm i := by
  intro i hi
  match i, hi with
  | 0, _ => exact ⟨_, rfl, rfl⟩
  | 1, _ => exact ⟨_, rfl, rfl⟩
  | 2, _ => exact ⟨_, rfl, rfl⟩
  | 3, _ => exact ⟨_, rfl, rfl⟩
  | 4, _ => exact ⟨_, rfl, rfl⟩
  | 5, _ => exact ⟨_, rfl, rfl⟩
  | 6, _ => exact ⟨_, rfl, rfl⟩
  | 7, _ => exact ⟨_, rfl, rfl⟩
  | 8, _ => exact ⟨_, rfl, rfl⟩
  | 9, _ => exact ⟨_, rfl, rfl⟩
  | 10, _ => exact ⟨_, rfl, rfl⟩
  | 11, _ => exact ⟨_, rfl, rfl⟩
  | 12, _ => exact ⟨_, rfl, rfl⟩
/-- the number of arguments, out of the descriptor -/
def naOk (m : Nat) : Bool := match flgT m with
  | 1 => decide ((parseMethodDescriptor (ndsT m).2).map (fun d => d.parameters.length) = some (datT m).2.1)
  | 0 => true
  | _ => decide ((parseMethodDescriptor (ndsT m).2).map (fun d => d.parameters.length) = some ((datT m).2.1 - 1))
theorem na_c0 : ((List.range 24).all fun j => naOk (0 + j)) = true := by decide +kernel
theorem na_c1 : ((List.range 24).all fun j => naOk (24 + j)) = true := by decide +kernel
theorem na_c2 : ((List.range 24).all fun j => naOk (48 + j)) = true := by decide +kernel
theorem na_c3 : ((List.range 24).all fun j => naOk (72 + j)) = true := by decide +kernel
theorem na_c4 : ((List.range 24).all fun j => naOk (96 + j)) = true := by decide +kernel
theorem na_c5 : ((List.range 24).all fun j => naOk (120 + j)) = true := by decide +kernel
theorem na_c6 : ((List.range 24).all fun j => naOk (144 + j)) = true := by decide +kernel
theorem na_c7 : ((List.range 24).all fun j => naOk (168 + j)) = true := by decide +kernel
theorem na_c8 : ((List.range 24).all fun j => naOk (192 + j)) = true := by decide +kernel
theorem na_c9 : ((List.range 24).all fun j => naOk (216 + j)) = true := by decide +kernel
theorem na_c10 : ((List.range 24).all fun j => naOk (240 + j)) = true := by decide +kernel
theorem na_c11 : ((List.range 24).all fun j => naOk (264 + j)) = true := by decide +kernel
theorem na_c12 : ((List.range 24).all fun j => naOk (288 + j)) = true := by decide +kernel
theorem na_c13 : ((List.range 24).all fun j => naOk (312 + j)) = true := by decide +kernel
theorem na_c14 : ((List.range 24).all fun j => naOk (336 + j)) = true := by decide +kernel
theorem na_c15 : ((List.range 24).all fun j => naOk (360 + j)) = true := by decide +kernel
theorem na_c16 : ((List.range 24).all fun j => naOk (384 + j)) = true := by decide +kernel
theorem na_c17 : ((List.range 24).all fun j => naOk (408 + j)) = true := by decide +kernel
theorem na_c18 : ((List.range 24).all fun j => naOk (432 + j)) = true := by decide +kernel
theorem na_c19 : ((List.range 24).all fun j => naOk (456 + j)) = true := by decide +kernel
theorem na_c20 : ((List.range 24).all fun j => naOk (480 + j)) = true := by decide +kernel
theorem na_c21 : ((List.range 24).all fun j => naOk (504 + j)) = true := by decide +kernel
theorem na_c22 : ((List.range 24).all fun j => naOk (528 + j)) = true := by decide +kernel
theorem na_ok (m : Nat) (h : m < 540) : naOk m = true := by
  have h1 : m % 24 < 24 := Nat.mod_lt _ (by decide)
  have h2 : m = 24 * (m / 24) + m % 24 := by omega
  have h3 : m / 24 < 23 := by omega
  generalize m / 24 = a at h2 h3
  generalize m % 24 = b at h1 h2
  subst h2
  match a, h3 with
  | 0, _ => exact rng_all (P := fun j => naOk (0 + j)) na_c0 h1
  | 1, _ => exact rng_all (P := fun j => naOk (24 + j)) na_c1 h1
  | 2, _ => exact rng_all (P := fun j => naOk (48 + j)) na_c2 h1
  | 3, _ => exact rng_all (P := fun j => naOk (72 + j)) na_c3 h1
  | 4, _ => exact rng_all (P := fun j => naOk (96 + j)) na_c4 h1
  | 5, _ => exact rng_all (P := fun j => naOk (120 + j)) na_c5 h1
  | 6, _ => exact rng_all (P := fun j => naOk (144 + j)) na_c6 h1
  | 7, _ => exact rng_all (P := fun j => naOk (168 + j)) na_c7 h1
  | 8, _ => exact rng_all (P := fun j => naOk (192 + j)) na_c8 h1
  | 9, _ => exact rng_all (P := fun j => naOk (216 + j)) na_c9 h1
  | 10, _ => exact rng_all (P := fun j => naOk (240 + j)) na_c10 h1
  | 11, _ => exact rng_all (P := fun j => naOk (264 + j)) na_c11 h1
  | 12, _ => exact rng_all (P := fun j => naOk (288 + j)) na_c12 h1
  | 13, _ => exact rng_all (P := fun j => naOk (312 + j)) na_c13 h1
  | 14, _ => exact rng_all (P := fun j => naOk (336 + j)) na_c14 h1
  | 15, _ => exact rng_all (P := fun j => naOk (360 + j)) na_c15 h1
  | 16, _ => exact rng_all (P := fun j => naOk (384 + j)) na_c16 h1
  | 17, _ => exact rng_all (P := fun j => naOk (408 + j)) na_c17 h1
  | 18, _ => exact rng_all (P := fun j => naOk (432 + j)) na_c18 h1
  | 19, _ => exact rng_all (P := fun j => naOk (456 + j)) na_c19 h1
  | 20, _ => exact rng_all (P := fun j => naOk (480 + j)) na_c20 h1
  | 21, _ => exact rng_all (P := fun j => naOk (504 + j)) na_c21 h1
  | 22, _ => exact rng_all (P := fun j => naOk (528 + j)) na_c22 h1
  | n + 23, h3 => exact absurd h3 (by omega)
theorem in_nm : ∀ m, m < 540 → flgT m = 3 → (ndsT m).1 = "<init>" := by decide +kernel
theorem ins_ok : ∀ i, i < 13 → i ∈ wl_ins := by decide +kernel
theorem flt_ok : (wl_fl.all fun q => Nat.ble (q.2.2 / 1024 + 1) 13 && Nat.ble (q.2.2 % 1024 / 4 + 1) (clsT.getD (q.2.2 / 1024) ("", fdT [], 0)).2.2 && Nat.beq (ftyT (q.2.2 / 1024) (q.2.2 % 1024 / 4)) (q.2.2 % 4)) = true := by decide +kernel
theorem fd_nth {l : List (String × (String × (String × Bool)))} {c : String} (h : ∀ q ∈ l, q.1 = c) {k : Nat} (hk : k < l.length) : (fdT l k).1 = c := by
  have h9 : ∀ (l : List (String × (String × (String × Bool)))) (k : Nat), k < l.length → ∃ q ∈ l, ev_nth l k = some q := by
    intro l
    induction l with
    | nil => intro k hk; exact absurd hk (Nat.not_lt_zero _)
    | cons a r ih =>
      intro k hk
      cases k with
      | zero => exact ⟨a, List.mem_cons_self, rfl⟩
      | succ k =>
        obtain ⟨q, h1, h2⟩ := ih k (by simpa using hk)
        exact ⟨q, List.mem_cons_of_mem _ h1, h2⟩
  obtain ⟨q, h1, h2⟩ := h9 l k hk
  unfold fdT
  rw [h2]
  exact h q h1
theorem own_ok (ci k : Nat) (rr : vw_C) (h : clsT[ci]? = some rr) (hk : k < rr.2.2) : (rr.2.1 k).1 = cnm ci := by
  obtain ⟨h1, -⟩ := cls_at h
  match ci, h1, h with
  | 0, _, h => cases h; exact fd_nth fd_own0 hk
  | 1, _, h => cases h; exact fd_nth fd_own1 hk
  | 2, _, h => cases h; exact fd_nth fd_own2 hk
  | 3, _, h => cases h; exact fd_nth fd_own3 hk
  | 4, _, h => cases h; exact fd_nth fd_own4 hk
  | 5, _, h => cases h; exact fd_nth fd_own5 hk
  | 6, _, h => cases h; exact fd_nth fd_own6 hk
  | 7, _, h => cases h; exact fd_nth fd_own7 hk
  | 8, _, h => cases h; exact fd_nth fd_own8 hk
  | 9, _, h => cases h; exact fd_nth fd_own9 hk
  | 10, _, h => cases h; exact fd_nth fd_own10 hk
  | 11, _, h => cases h; exact fd_nth fd_own11 hk
  | 12, _, h => cases h; exact fd_nth fd_own12 hk
def tyOk (ci k : Nat) : Bool := match parseFieldDescriptor ((clsT.getD ci ("", fdT [], 0)).2.1 k).2.2.1 with
  | some ty => (match ftyT ci k with
    | 0 => decide (ty = .int)
    | 1 => decide (ty = .long)
    | 2 => decide (ty = .boolean)
    | 3 => ty.isReference
    | _ => false)
  | none => false
theorem ty_ok0 : ((List.range (clsT.getD 0 ("", fdT [], 0)).2.2).all (tyOk 0)) = true := by decide +kernel
theorem ty_ok1 : ((List.range (clsT.getD 1 ("", fdT [], 0)).2.2).all (tyOk 1)) = true := by decide +kernel
theorem ty_ok2 : ((List.range (clsT.getD 2 ("", fdT [], 0)).2.2).all (tyOk 2)) = true := by decide +kernel
theorem ty_ok3 : ((List.range (clsT.getD 3 ("", fdT [], 0)).2.2).all (tyOk 3)) = true := by decide +kernel
theorem ty_ok4 : ((List.range (clsT.getD 4 ("", fdT [], 0)).2.2).all (tyOk 4)) = true := by decide +kernel
theorem ty_ok5 : ((List.range (clsT.getD 5 ("", fdT [], 0)).2.2).all (tyOk 5)) = true := by decide +kernel
theorem ty_ok6 : ((List.range (clsT.getD 6 ("", fdT [], 0)).2.2).all (tyOk 6)) = true := by decide +kernel
theorem ty_ok7 : ((List.range (clsT.getD 7 ("", fdT [], 0)).2.2).all (tyOk 7)) = true := by decide +kernel
theorem ty_ok8 : ((List.range (clsT.getD 8 ("", fdT [], 0)).2.2).all (tyOk 8)) = true := by decide +kernel
theorem ty_ok9 : ((List.range (clsT.getD 9 ("", fdT [], 0)).2.2).all (tyOk 9)) = true := by decide +kernel
theorem ty_ok10 : ((List.range (clsT.getD 10 ("", fdT [], 0)).2.2).all (tyOk 10)) = true := by decide +kernel
theorem ty_ok11 : ((List.range (clsT.getD 11 ("", fdT [], 0)).2.2).all (tyOk 11)) = true := by decide +kernel
theorem ty_ok12 : ((List.range (clsT.getD 12 ("", fdT [], 0)).2.2).all (tyOk 12)) = true := by decide +kernel
theorem ty_all (ci k : Nat) (h1 : ci < 13) (hk : k < (clsT.getD ci ("", fdT [], 0)).2.2) : tyOk ci k = true := by
  match ci, h1, hk with
  | 0, _, hk => exact rng_all ty_ok0 hk
  | 1, _, hk => exact rng_all ty_ok1 hk
  | 2, _, hk => exact rng_all ty_ok2 hk
  | 3, _, hk => exact rng_all ty_ok3 hk
  | 4, _, hk => exact rng_all ty_ok4 hk
  | 5, _, hk => exact rng_all ty_ok5 hk
  | 6, _, hk => exact rng_all ty_ok6 hk
  | 7, _, hk => exact rng_all ty_ok7 hk
  | 8, _, hk => exact rng_all ty_ok8 hk
  | 9, _, hk => exact rng_all ty_ok9 hk
  | 10, _, hk => exact rng_all ty_ok10 hk
  | 11, _, hk => exact rng_all ty_ok11 hk
  | 12, _, hk => exact rng_all ty_ok12 hk
theorem ty_ok (ci k : Nat) (rr : vw_C) (h : clsT[ci]? = some rr) (hk : k < rr.2.2) : ∃ ty, parseFieldDescriptor (rr.2.1 k).2.2.1 = some ty ∧ (ftyT ci k = 0 → ty = .int) ∧ (ftyT ci k = 1 → ty = .long) ∧ (ftyT ci k = 2 → ty = .boolean) ∧ (ftyT ci k = 3 → ty.isReference = true) := by
  obtain ⟨h1, e⟩ := cls_at h
  subst e
  have h2 := ty_all ci k h1 hk
  unfold tyOk at h2
  split at h2
  · next ty hty =>
    refine ⟨ty, hty, ?_⟩
    split at h2
    · next e => rw [e]; exact ⟨fun _ => of_decide_eq_true h2, (fun z => by cases z), (fun z => by cases z), (fun z => by cases z)⟩
    · next e => rw [e]; exact ⟨(fun z => by cases z), fun _ => of_decide_eq_true h2, (fun z => by cases z), (fun z => by cases z)⟩
    · next e => rw [e]; exact ⟨(fun z => by cases z), (fun z => by cases z), fun _ => of_decide_eq_true h2, (fun z => by cases z)⟩
    · next e => rw [e]; exact ⟨(fun z => by cases z), (fun z => by cases z), (fun z => by cases z), fun _ => h2⟩
    · cases h2
  · cases h2
theorem sl_g : ∀ q ∈ wl_sl, q.2.2 ∈ [1000, 1001, 1002, 1003, 1004] := by decide +kernel
theorem sl_c : ∀ g ∈ [1000, 1001, 1002, 1003, 1004], 1000 ≤ g ∧ 0 < sn_cnt (shpT g) := by decide +kernel
theorem slt_ok (q : Nat × (Nat × Nat)) (h : q ∈ wl_sl) : ((stn q.2.2).1, ((stn q.2.2).2.1, ((stn q.2.2).2.2, q.2.2))) ∈ stsT ∧ 1000 ≤ q.2.2 ∧ 0 < sn_cnt (shpT q.2.2) := by
  have h1 := sl_g q h
  refine ⟨?_, sl_c _ h1⟩
  generalize q.2.2 = g at h1 ⊢
  unfold stsT
  simp only [List.mem_cons, List.not_mem_nil, or_false] at h1
  rcases h1 with rfl | rfl | rfl | rfl | rfl
  · exact List.mem_cons_self
  · exact List.mem_cons_of_mem _ List.mem_cons_self
  · exact List.mem_cons_of_mem _ (List.mem_cons_of_mem _ List.mem_cons_self)
  · exact List.mem_cons_of_mem _ (List.mem_cons_of_mem _ (List.mem_cons_of_mem _ List.mem_cons_self))
  · exact List.mem_cons_of_mem _ (List.mem_cons_of_mem _ (List.mem_cons_of_mem _ (List.mem_cons_of_mem _ List.mem_cons_self)))
theorem nst_ok (own : Nat) (q : Nat × Nat) (h : q ∈ by_nst own) : ∃ host, (cnm own, (q.1, (namT q.2, host))) ∈ nwsT := ⟨cnm 11, List.mem_map_of_mem (f := fun q => (cnm q.1, (q.2.1, (namT q.2.2, cnm 11)))) (by_nst_ok own q h)⟩
