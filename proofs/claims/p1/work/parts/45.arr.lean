/-! ===== SOUNDNESS: arrays that are made, reference fields in constructors ===== -/
section NAR
variable {shp : Nat → Nat × (Nat × (Nat × Nat))} {rfT : Nat → Nat → Nat} {fty : Nat → Nat → Nat} {D : va_G} {cls : List vw_C} {cA : Nat → ClassId} {ad : Nat → Nat} {base : Nat} {stc : Nat → Nat → Int32}
variable {md : Bool} {x x' : ev_M} {H H' : Heap} {g : Nat}
variable {p : Program} {l : Launch} {e : Env} {R : Room} {s : State} {m : MethodId} {args : Array Value} {below : List Frame} {meth : Method} {c : Code} {Q : State → Prop} {cc : ByteArray} {c0 s0 nL : Nat} {out : ev_O}
variable {pc n r i : Nat} {k : ev_K} {L : ev_L} {st : List ev_V} {Ts : List Cond} {own : String} {index : Nat}
theorem cI_nat {n : Nat} (h : n ≤ 60000) : ¬ cI n < 0 ∧ (cI n).toNatClampNeg = n := by
  have e : cI (n : Int) = nI n := by
    unfold cI nI
    exact Int32.ofInt_eq_ofNat
  rw [e]
  exact ⟨nI_pos (by omega), nI_clamp (by omega)⟩
def sn_ta (r : Nat) (ty : FieldType) : Prop := (r = 1 ∧ ty = .int) ∨ (r = 2 ∧ ty = .byte) ∨ (r = 3 ∧ ty = .boolean) ∨ (r = 4 ∧ ty = .long)
theorem w_newa {at' : ArrayType} (hx : p.tables.exec = Jvm.exec) (hb : c.code = cc) (hX : sn_X shp ad base) (hst : ∀ g t n y, shp g = (t, (n, (y, 0))) → t < 5 → g < 1000) (hsz : ∀ g t n y, shp g = (t, (n, y)) → 1 ≤ t → n ≤ 60000) (hts : ∀ w ∈ Ts, w.before args s = true) (hK : va_K D cls (sn_tys cA) s) (hl : Cond.arrayClass (newarray.typeOf at') ∈ Ts) (hty : sn_ta r (newarray.typeOf at')) (hR : sn_R R c0 s0 out) (hm : sn_mono k out) (hk : sn_K shp rfT fty D cls cA ad base stc p l e R s m args below meth c Q true c0 s0 nL out k) (hd : decode cc pc = .ok (.newarray at', 2)) (h : s_newa shp r pc k L st x = some out) : sn_W shp rfT fty D cls cA ad base stc p l e R s m args below meth c Q true c0 s0 nL pc L st x := by
  intro H locs cells slots ls S
  unfold s_newa at h
  split at h
  · next y st' t nn hs =>
    cases hq : Nat.beq t r && Nat.ble 1 t && Nat.ble t 4 with
    | false => rw [hq] at h; cases h
    | true =>
      rw [hq] at h
      simp only [cond_true] at h
      rw [Bool.and_eq_true, Bool.and_eq_true] at hq
      have q1 : t = r := Nat.eq_of_beq_eq_true hq.1.1
      have q2 : 1 ≤ t := Nat.le_of_ble_eq_true hq.1.2
      have q3 : t ≤ 4 := Nat.le_of_ble_eq_true hq.2
      subst q1
      split at h
      · next hy =>
        subst hy
        obtain ⟨m1, m2⟩ := hm _ _ _ _ h
        have m1' : x.2.2.2.2.1 + 1 ≤ out.1.2.2.2.2.1 := m1
        have m2' : x.2.2.2.2.2 + nn ≤ out.1.2.2.2.2.2 := m2
        obtain ⟨k1, k2⟩ := S.2.2.2.2
        obtain ⟨R1, R2⟩ := hR
        have hH := S.1.2.2.2.1 rfl
        have hnx : x.2.2.1 < 1000 := hst _ _ _ _ hs (by omega)
        have hnn := hsz _ _ _ _ hs q2
        obtain ⟨n1, n2⟩ := cI_nat hnn
        refine va_newaK hx hb (hts _ hl) (N := nn) (n := cI nn) (rest := st'.map (sn_v ad)) rfl hd rfl n1 n2 ?_ (by omega) (by omega) (h := ad x.2.2.1) (by rw [hX.2.2 _ hnx]; exact hH) fun H1 cA' o1 o2 o3 o4 o5 => ?_
        · rcases hty with ⟨-, e⟩ | ⟨-, e⟩ | ⟨-, e⟩ | ⟨-, e⟩ <;> rw [e] <;> simp [componentBytes] <;> omega
        · refine hk _ _ _ _ h H1 locs _ _ ls ((S.stk (st' := st') (sn_tl S.2.2.2.1)).make (nn := 1) (w := nn) hX (by omega) (by rw [o2, hX.2.2 _ hnx]; omega) (fun q hq => o3 q (by rw [hX.2.2 _ hnx]; omega)) (fun j hj => ?_) (fun g g1 g2 n f w hz => ?_) (sn_ok1 ?_ fun v hv => (S.2.2.2.1 v (List.mem_cons_of_mem _ hv)).mono shp (Nat.le_add_right _ _)))
          · have : j = 0 := by omega
            subst this
            show sn_at shp rfT fty D cls cA ad true _ H1 x.2.2.1
            have z1 : ∀ k', (s_make 1 nn x).1 x.2.2.1 k' = 0 := z_row_in (Nat.le_refl _) (by omega)
            have z2 : ∀ k', (s_make 1 nn x).2.1 x.2.2.1 k' = 0 := z_row_in (Nat.le_refl _) (by omega)
            unfold sn_at
            rw [hs]
            rcases hty with ⟨e1, e⟩ | ⟨e1, e⟩ | ⟨e1, e⟩ | ⟨e1, e⟩ <;> subst e1 <;> rw [e] at o1 o5
            · have e9 : cA' = cA 1 := Option.some.inj (o5.symm.trans ((hK.2 0 _ rfl).2))
              subst e9
              show H1[ad x.2.2.1]? = some (arrV (cA 1) nn (fun j => .int ((s_make 1 nn x).1 x.2.2.1 j)))
              simp only [z1]
              exact o1
            · have e9 : cA' = cA 2 := Option.some.inj (o5.symm.trans ((hK.2 1 _ rfl).2))
              subst e9
              show H1[ad x.2.2.1]? = some (arrV (cA 2) nn (fun j => .int ((s_make 1 nn x).1 x.2.2.1 j))) ∧ ∀ j, fits .byte (.int ((s_make 1 nn x).1 x.2.2.1 j)) = true
              simp only [z1]
              exact ⟨o1, fun _ => by decide⟩
            · have e9 : cA' = cA 3 := Option.some.inj (o5.symm.trans ((hK.2 2 _ rfl).2))
              subst e9
              show H1[ad x.2.2.1]? = some (arrV (cA 3) nn (fun j => .int ((s_make 1 nn x).1 x.2.2.1 j)))
              simp only [z1]
              exact o1
            · have e9 : cA' = cA 4 := Option.some.inj (o5.symm.trans ((hK.2 3 _ rfl).2))
              subst e9
              show H1[ad x.2.2.1]? = some (arrV (cA 4) nn (fun j => .long ((s_make 1 nn x).2.1 x.2.2.1 j)))
              simp only [z2]
              exact o1
          · have : g = x.2.2.1 := by omega
            subst this
            rw [hs] at hz
            cases hz
            omega
          · refine ⟨Or.inl ⟨by show x.2.2.1 + 0 < _; omega, hnx⟩, ?_⟩
            show 0 < sn_cnt (shp x.2.2.1)
            rw [hs]
            rcases (by omega : t = 1 ∨ t = 2 ∨ t = 3 ∨ t = 4) with e | e | e | e <;> subst e <;> exact Nat.one_pos
      · cases h
  · cases h
theorem sn_outer (c : ClassId) (N h0 : Nat) : ∀ i : Nat, Jvm.Free.Multi.outerC c N h0 i = arrV c N (fun j => if j < i then .ref (h0 + 1 + j) else .null)
  | 0 => by
    show ({ cls := c, slots := Array.replicate N .null, vm := .none } : Cell) = _
    rw [arrV_new]
    refine congrArg (arrV c N) (funext fun j => ?_)
    simp
  | i + 1 => by
    show (Jvm.Free.Multi.outerC c N h0 i).setSlot i (.ref (h0 + 1 + i)) = _
    rw [sn_outer c N h0 i, arrV_store]
    refine congrArg (arrV c N) (funext fun j => ?_)
    by_cases e : j = i
    · subst e
      simp [updV]
    · by_cases h : j < i
      · simp [updV, e, h, Nat.lt_succ_of_lt h]
      · simp [updV, e, h, show ¬ j < i + 1 by omega]
theorem arrV_congr {c : ClassId} {N : Nat} {f f' : Nat → Value} (h : ∀ j, j < N → f j = f' j) : arrV c N f = arrV c N f' := by
  unfold arrV
  congr 1
  refine Array.ext (by simp) fun j h1 h2 => ?_
  simp only [Array.getElem_ofFn]
  exact h j (by simpa using h1)
theorem w_newm (hx : p.tables.exec = Jvm.exec) (hb : c.code = cc) (hX : sn_X shp ad base) (hst : ∀ g t n y, shp g = (t, (n, (y, 0))) → t < 5 → g < 1000) (hsz : ∀ g t n y, shp g = (t, (n, y)) → 1 ≤ t → n ≤ 60000) (hst5 : ∀ g n f w, shp g = (5, (n, (f, w))) → g + 1 + n ≤ 1000) (hts : ∀ w ∈ Ts, w.before args s = true) (hown : s.vm.findClass own = some m.cls) (hK : va_K D cls (sn_tys cA) s) (hl : Cond.classLink own index "[[I" ∈ Ts ∧ Cond.arrayClass .int ∈ Ts) (hao : (Cond.arrayOver (.array .int)).before args s = true) (hR : sn_R R c0 s0 out) (hm : sn_mono k out) (hk : sn_K shp rfT fty D cls cA ad base stc p l e R s m args below meth c Q true c0 s0 nL out k) (hd : decode cc pc = .ok (.multianewarray index 2, 4)) (h : s_newm shp pc k L st x = some out) : sn_W shp rfT fty D cls cA ad base stc p l e R s m args below meth c Q true c0 s0 nL pc L st x := by
  intro H locs cells slots ls S
  unfold s_newm at h
  split at h
  · next y z st' nn f w hs =>
    split at h
    · next mm cn hs2 =>
      cases hq : Nat.beq f (x.2.2.1 + 1) && Nat.beq cn nn with
      | false => rw [hq] at h; cases h
      | true =>
        rw [hq] at h
        simp only [cond_true] at h
        rw [Bool.and_eq_true] at hq
        have q1 : f = x.2.2.1 + 1 := Nat.eq_of_beq_eq_true hq.1
        have q2 : cn = nn := Nat.eq_of_beq_eq_true hq.2
        subst q1
        subst q2
        split at h
        · next hy =>
          obtain ⟨rfl, rfl⟩ := hy
          obtain ⟨m1, m2⟩ := hm _ _ _ _ h
          have m1' : x.2.2.2.2.1 + (1 + cn) ≤ out.1.2.2.2.2.1 := m1
          have m2' : x.2.2.2.2.2 + (cn + cn * mm) ≤ out.1.2.2.2.2.2 := m2
          obtain ⟨k1, k2⟩ := S.2.2.2.2
          obtain ⟨R1, R2⟩ := hR
          have hH := S.1.2.2.2.1 rfl
          have h5 := hst5 _ _ _ _ hs
          have hnx : x.2.2.1 < 1000 := by omega
          have hnn := hsz _ _ _ _ hs (by decide)
          have hmm := hsz _ _ _ _ hs2 (by decide)
          obtain ⟨n1, n2⟩ := cI_nat hnn
          obtain ⟨n3, n4⟩ := cI_nat hmm
          intro T hT Xs
          obtain ⟨vm₁, cA9, comp, -, fA, fC, -, -, X', step⟩ := Xs.multianewarray2F hx hown (ty := .int) (hts _ hl.1) hao (hts _ hl.2) (g := F0 m pc ls (.int (cI mm) :: .int (cI cn) :: st'.map (sn_v ad))) rfl (by rw [hb]; exact hd) rfl n1 n3 (by rw [n2]; omega) (by rw [n4]; simp [componentBytes]; omega) (by rw [n4]; omega) rfl rfl (by rw [n2]; omega) (by rw [n2, n4]; omega)
          rw [n2, n4] at X' step
          generalize hF : Jvm.Free.Multi.fill (T.setVm vm₁) cA9 comp cn mm (defaultValue .int) cn = F at X' step
          have hTh : (T.setVm vm₁).heap = H := hT
          obtain ⟨f1, f2, -, -⟩ := Jvm.Free.Multi.fill_facts (T.setVm vm₁) cA9 comp cn mm (defaultValue .int) cn
          rw [hF, hTh] at f1 f2
          have hold : ∀ q : Nat, q < H.size → F.heap[q]? = H[q]? := fun q hq => by
            have := Jvm.Free.Multi.fill_old (T.setVm vm₁) cA9 comp cn mm (defaultValue .int) (a := q) (by rw [hTh]; exact hq) cn
            rw [hF, hTh] at this
            exact this
          have hrow : ∀ j : Nat, j < cn → F.heap[H.size + 1 + j]? = some (Jvm.Free.Multi.innerC comp mm (defaultValue .int)) := fun j hj => by
            have := Jvm.Free.Multi.fill_inner (T.setVm vm₁) cA9 comp cn mm (defaultValue .int) cn j hj
            rw [hF, hTh] at this
            exact this
          have e1 : cA9 = cA 5 := Option.some.inj (fA.symm.trans ((hK.2 4 _ rfl).2))
          have e2 : comp = cA 1 := Option.some.inj (fC.symm.trans ((hK.2 0 _ rfl).2))
          subst e1
          subst e2
          have hrf : T.heap.size = ad x.2.2.1 := by
            rw [hT, hX.2.2 _ hnx]
            exact hH
          rw [hrf] at step
          have z1 : ∀ a, x.2.2.1 ≤ a → a < x.2.2.1 + (1 + cn) → ∀ k', (s_make (1 + cn) (cn + cn * mm) x).1 a k' = 0 := fun a h1 h2 k' => z_row_in h1 h2 k'
          have S' := (S.stk (st' := st') (sn_tl (sn_tl S.2.2.2.1))).make (H' := F.heap) (nn := 1 + cn) (w := cn + cn * mm) (st' := vR x.2.2.1 0 :: st') hX (by omega) (by omega) hold (fun j hj => ?_) (fun g g1 g2 n f w hz => ?_) (sn_ok1 ?_ fun v hv => (S.2.2.2.1 v (List.mem_cons_of_mem _ (List.mem_cons_of_mem _ hv))).mono shp (Nat.le_add_right _ _))
          · obtain ⟨t, a1, b1⟩ := hk _ _ _ _ h F.heap locs _ _ ls S' F rfl (by
              have e3 : cells + 1 + cn = cells + (1 + cn) := by omega
              have e4 : slots + cn + cn * mm = slots + (cn + cn * mm) := by omega
              rw [← e3, ← e4]
              exact X')
            exact ⟨t, step t a1, b1⟩
          · cases j with
            | zero =>
              show sn_at shp rfT fty D cls cA ad true _ F.heap x.2.2.1
              unfold sn_at
              rw [hs]
              show F.heap[ad x.2.2.1]? = some (arrV (cA 5) cn (fun j => .ref (ad (x.2.2.1 + 1 + j))))
              rw [hX.2.2 _ hnx, ← hH, f2, sn_outer]
              refine congrArg some (arrV_congr fun j hj => ?_)
              rw [if_pos hj, hX.2.2 (x.2.2.1 + 1 + j) (by omega)]
              have e9 : H.size + 1 + j = base + (x.2.2.1 + 1 + j) := by omega
              exact congrArg Value.ref e9
            | succ j =>
              have hr := hX.1 (x.2.2.1 + 1) j (by omega) (by rw [hs2]; show j < cn; omega)
              rw [hs2] at hr
              have hr : shp (x.2.2.1 + 1 + j) = (1, (mm, ((shp (x.2.2.1 + 1 + j)).2.2.1, 0))) := Prod.ext hr.1 (Prod.ext hr.2.1 (Prod.ext rfl hr.2.2))
              show sn_at shp rfT fty D cls cA ad true _ F.heap (x.2.2.1 + (j + 1))
              rw [show x.2.2.1 + (j + 1) = x.2.2.1 + 1 + j by omega]
              unfold sn_at
              rw [hr]
              show F.heap[ad (x.2.2.1 + 1 + j)]? = some (arrV (cA 1) mm (fun j' => .int ((s_make (1 + cn) (cn + cn * mm) x).1 (x.2.2.1 + 1 + j) j')))
              rw [hX.2.2 _ (by omega), show base + (x.2.2.1 + 1 + j) = H.size + 1 + j by omega, hrow j (by omega)]
              simp only [z1 (x.2.2.1 + 1 + j) (by omega) (by omega)]
              show some ({ cls := cA 1, slots := Array.replicate mm (.int 0), vm := .none } : Cell) = _
              rw [arrV_new]
          · by_cases hg0 : g = x.2.2.1
            · subst hg0
              rw [hs] at hz
              cases hz
              omega
            · have hr := hX.1 (x.2.2.1 + 1) (g - (x.2.2.1 + 1)) (by omega) (by rw [hs2]; show g - (x.2.2.1 + 1) < cn; omega)
              rw [show x.2.2.1 + 1 + (g - (x.2.2.1 + 1)) = g by omega, hs2, hz] at hr
              have h9 := hr.1
              simp at h9
          · refine ⟨Or.inl ⟨by show x.2.2.1 + 0 < _; omega, hnx⟩, ?_⟩
            show 0 < sn_cnt (shp x.2.2.1)
            rw [hs]
            exact Nat.one_pos
        · cases h
    · cases h
  · cases h
theorem w_getr (hx : p.tables.exec = Jvm.exec) (hb : c.code = cc) (hX : sn_X shp ad base) (hst : ∀ g w, shp g = (0, w) → g < 1000) (hts : ∀ w ∈ Ts, w.before args s = true) (hown : s.vm.findClass own = some m.cls) (hC : sn_C cls Ts) (hK : va_K D cls (sn_tys cA) s) (hF : sn_F cls fty Ts own index r) (hk : sn_K shp rfT fty D cls cA ad base stc p l e R s m args below meth c Q md c0 s0 nL out k) (hd : decode cc pc = .ok (.getfield index, n) ∧ n = 3) (h : s_getr shp rfT r pc n k L st x = some out) : sn_W shp rfT fty D cls cA ad base stc p l e R s m args below meth c Q md c0 s0 nL pc L st x := by
  unfold s_getr at h
  split at h
  · next g j st' =>
    cases hq : x.2.2.2.1 g (r % 1024 / 4) with
    | false => rw [hq] at h; cases h
    | true =>
      rw [hq] at h
      simp only [cond_true] at h
      refine w_get hx hb hX hst hts hown hC hK hF hk hd (fun _ _ g' i' st'' e => ?_) h
      cases e
      exact hq
  · cases h
theorem w_putr (hx : p.tables.exec = Jvm.exec) (hb : c.code = cc) (hX : sn_X shp ad base) (hst : ∀ g w, shp g = (0, w) → g < 1000) (hts : ∀ w ∈ Ts, w.before args s = true) (hown : s.vm.findClass own = some m.cls) (hC : sn_C cls Ts) (hK : va_K D cls (sn_tys cA) s) (hF : sn_F cls fty Ts own index r) (hP : sn_P cls own meth.name r) (h3 : r % 4 = 3) (hk : sn_K shp rfT fty D cls cA ad base stc p l e R s m args below meth c Q true c0 s0 nL out k) (hd : decode cc pc = .ok (.putfield index, n) ∧ n = 3) (h : s_putr shp rfT r pc n k L st x = some out) : sn_W shp rfT fty D cls cA ad base stc p l e R s m args below meth c Q true c0 s0 nL pc L st x := by
  intro H locs cells slots ls S
  obtain ⟨hd, rfl⟩ := hd
  unfold s_putr at h
  split at h
  · next hh j g i st' =>
    have hok := sn_hd (sn_tl S.2.2.2.1)
    have hokv := sn_hd S.2.2.2.1
    have htl := sn_tl (sn_tl S.2.2.2.1)
    split at h
    · next ci w hs =>
      obtain ⟨rfl, hg, rr, hci, ho⟩ := sn_obj hX S.1 hok hs hst
      cases hq : Nat.beq ci (r / 1024) && Nat.beq (rfT g (r % 1024 / 4)) hh && Nat.beq j 0 with
      | false => rw [hq] at h; cases h
      | true =>
        rw [hq] at h
        simp only [cond_true] at h
        rw [Bool.and_eq_true, Bool.and_eq_true] at hq
        have q1 : ci = r / 1024 := Nat.eq_of_beq_eq_true hq.1.1
        have q2 : rfT g (r % 1024 / 4) = hh := Nat.eq_of_beq_eq_true hq.1.2
        have q3 : j = 0 := Nat.eq_of_beq_eq_true hq.2
        subst q1
        subst q3
        obtain ⟨rr', f1, f2, f3, f4⟩ := hF
        cases hci.symm.trans f1
        obtain ⟨hfin, ty, hdd, t0, t1, t2, t3⟩ := hP _ hci
        have ht := t3 h3
        refine sn_putf hx hb hts hown hC hK hci f2 f3 ho hfin hdd (v := .ref (ad (hh + 0))) (by cases ty <;> first | rfl | cases ht) (by cases ty <;> first | rfl | cases ht) hd fun H1 j' o1 o2 o3 => hk _ _ _ _ h H1 (locs ++ [⟨ad g, j'⟩]) cells slots ls ?_
        obtain ⟨⟨a1, a2, a3, a4, a5, a6⟩, b, cc1, d, e1, e2⟩ := S
        have hgl : g < 1000 := hst _ _ hs
        refine ⟨⟨fun q hq => ?_, a2, a3, by rw [o2]; exact a4, a5, fun q hq ci' w' hs' k' hk' hS => ?_⟩, b.put o2 o3 (by show base ≤ ad g; rw [hX.2.2 g hgl]; omega), cc1, htl, e1, e2⟩
        · by_cases e : q = g
          · subst e
            unfold sn_at
            rw [hs]
            refine ⟨rr, hci, o1.to fun j' _ => ?_⟩
            show updV _ _ _ j' = _
            unfold updV sn_fv
            by_cases hj : j' = r % 1024 / 4
            · subst hj
              rw [if_pos rfl]
              simp only [f4, h3]
              rw [if_neg (by simp [u2]), q2]
              rfl
            · rw [if_neg hj]
              split <;> simp [u2, hj]
          · refine (a1 q hq).kept _ _ _ _ _ _ _ (o3 _ (fun e9 => e ?_)) (fun _ => rfl) (fun _ => rfl) (fun j => u2_ne _ e _ _ _)
            have z1 := hX.2.2 q (by have : q < x.2.2.1 := hq; omega)
            have z2 := hX.2.2 g hgl
            have e10 : ad q = ad g := e9
            omega
        · have hS' : u2 x.2.2.2.1 g (r % 1024 / 4) true q k' = true := hS rfl
          by_cases e : q = g
          · subst e
            by_cases hj : k' = r % 1024 / 4
            · subst hj
              rw [q2]
              exact hokv
            · rw [u2_eq, if_neg hj] at hS'
              exact a6 q hq ci' w' hs' k' hk' (fun _ => hS')
          · rw [u2_ne _ e] at hS'
            exact a6 q hq ci' w' hs' k' hk' (fun _ => hS')
    · cases h
  · cases h
end NAR
