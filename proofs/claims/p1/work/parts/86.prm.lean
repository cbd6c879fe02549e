/-! ===== LEVEL 1: the calls that the interpreter does not walk, first half: Object's constructor, arraycopy, texts ===== -/
section PRM
variable {D : va_G} {cA : Nat → ClassId} {ad : Nat → Nat} {base : Nat} {EX : State → Prop}
variable {p : Program} {l : Launch} {e : Env} {R : Room} {s : State} {m : MethodId} {args : Array Value} {below : List Frame} {meth : Method} {c : Code} {Q : State → Prop} {cc : ByteArray} {md : Bool} {c0 s0 nL : Nat} {out : ev_O}
variable {pc idx na : Nat} {k : ev_K} {L : ev_L} {st : List ev_V} {x : ev_M} {own : String} {stc : Nat → Nat → Int32}
theorem prm_args {w : List ev_V → ev_M → Option ev_O} (h : s_call na w pc k L st x = some out) : ∃ (as st' : List ev_V) (o : ev_O), w as x = some o ∧ as.length = na ∧ st = as.reverse ++ st' ∧ k (pc + 3) L (o.2 ++ st') o.1 = some out ∧ ev_cats st' ≤ 8 := by
  unfold s_call at h
  split at h
  · next as st' htk =>
    obtain ⟨h8, h7⟩ := bif_some h
    unfold ev_after at h7
    split at h7
    · next o ho =>
      obtain ⟨bs, t1, t2, t3⟩ := ev_take_some _ _ _ _ _ htk
      rw [List.append_nil] at t1
      subst t1
      exact ⟨as, st', o, ho, t3, t2, h7, Nat.le_of_ble_eq_true h8⟩
    · cases h7
  · cases h
theorem w_objp {ws : List Cond} (F : CallFix p m c cc nL s args ws own) (h1 : Cond.methodLink own idx objectInit ∈ ws) (h2 : Cond.instanceMethod objectInit ∈ ws) (h3 : Cond.code objectInit ⟨#[0xb1]⟩ 1 none ∈ ws) (hR : 1 ≤ R.frames ∧ 20 ≤ R.locals) (hk : sn_K shpT rfT ftyT D clsT cA ad base stc p l e R s m args below meth c Q md c0 s0 nL out k) (hd : decode cc pc = .ok (.invokespecial idx, 3)) (h : s_call na pObj pc k L st x = some out) : sn_W shpT rfT ftyT D clsT cA ad base stc p l e R s m args below meth c Q md c0 s0 nL pc L st x := by
  intro H locs cells slots ls S
  obtain ⟨as, st', o, q1, q2, q3, q4, q5⟩ := prm_args h
  unfold pObj at q1
  split at q1
  · next q =>
    cases q1
    have q3 : st = .inr (.inr q) :: st' := q3
    subst q3
    have hr := lv_room (m := m) (pc := pc) (ls := ls) (rest := (vR q.1 q.2 :: st').map (sn_v ad)) (st := st'.map (sn_v ad)) (by rw [sn_cats]; exact q5)
    refine W.objInit F.1 F.2.1 F.2.2.2.1 (F.2.2.2.2 _ h1) (F.2.2.2.2 _ h2) (F.2.2.2.2 _ h3) (g := F0 m pc ls (Value.ref (ad (q.1 + q.2)) :: st'.map (sn_v ad))) rfl (S.2.2.1.1.trans F.2.2.1.symm) (a := ad (q.1 + q.2)) (rest := st'.map (sn_v ad)) rfl hd hR.1 ?_ ?_
    · have h9 : 2 * (F0 m pc ls (Value.ref (ad (q.1 + q.2)) :: st'.map (sn_v ad))).monitorRoom + ((st'.map (sn_v ad)).map fun v => v.category).sum ≤ 8 := hr
      omega
    · exact hk _ _ _ _ q4 H locs cells slots ls (S.stk (sn_tl S.2.2.2.1))
  · cases q1
/-! ===== a copy between two rows ===== -/
theorem cp_row {ls : Array Slot} {rest : List Value} {H H0 : Heap} {locs : List Loc} {cells slots : Nat} {A : Nat → Prop} {tys : List (ClassId × FieldType)} {cls : List vw_C} (hx : p.tables.exec = Jvm.exec) (hb : c.code = cc) (hml : c.maxLocals = ls.size) (hown : s.vm.findClass own = some m.cls) (hlink : (Cond.methodLink own idx arraycopyName).before args s = true) (hnat : (Cond.native arraycopyName).before args s = true) (hstat : (Cond.static arraycopyName).before args s = true) (hini : (Cond.initialized "java/lang/System").before args s = true)
    (hK : va_K D cls tys s) (hS : va_S A H0 H locs) (t : Nat) {cI0 : ClassId} {ty : FieldType} (ht : tys[t]? = some (cI0, ty)) (hprim : refKind ty = false) {a0 a n0 n1 : Nat} {f g : Nat → Int32} (hc0 : H[a0]? = some (arrV cI0 n0 (fun j => .int (f j)))) (hc1 : H[a]? = some (arrV cI0 n1 (fun j => .int (g j)))) (hA : A a)
    {sp dp n : Int32} (h1 : ¬ sp < 0) (h2 : ¬ dp < 0) (h3 : ¬ n < 0) (h4 : sp.toNatClampNeg + n.toNatClampNeg ≤ n0) (h5 : dp.toNatClampNeg + n.toNatClampNeg ≤ n1) (hfit : ∀ i, fits ty (.int (f i)) = true)
    (hframes : 1 ≤ R.frames) (hlocals : (rest.map fun v => v.category).sum + (nativeFrameWords "java/lang/System" "arraycopy" 5 + 11) ≤ R.locals) (hdg : decode cc pc = .ok (.invokestatic idx, 3))
    (kk : ∀ (H1 : Heap) (locs1 : List Loc), H1[a]? = some (arrV cI0 n1 (fun j => .int (va_cpy f g sp.toNatClampNeg dp.toNatClampNeg n.toNatClampNeg j))) → H1.size = H.size → (∀ q : Nat, q ≠ a → H1[q]? = H[q]?) → va_S A H0 H1 locs1 → W p l e R s m args below meth c H1 locs1 cells slots Q (F0 m (pc + 3) ls rest)) : W p l e R s m args below meth c H locs cells slots Q (F0 m pc ls (.int n :: .int dp :: .ref a :: .int sp :: .ref a0 :: rest)) := by
  have nn : ∀ z : Int32, ¬ z < 0 → z.toInt = (z.toNatClampNeg : Int) := by
    intro z hz
    have hz0 : (0 : Int) ≤ z.toInt := by
      have := Int32.not_lt.mp hz
      simpa using Int32.le_iff_toInt_le.mp this
    show z.toInt = ((z.toInt.toNat : Nat) : Int)
    omega
  intro T hT X
  obtain ⟨-, k0, hk0, cm0, hkk0⟩ := (hK.2 t _ ht).1 n0 (fun j => .int (f j))
  obtain ⟨-, k1, hk1, cm1, hkk1⟩ := (hK.2 t _ ht).1 n1 (fun j => .int (g j))
  obtain ⟨vm', X', step⟩ := X.arraycopy hx hown hlink hnat hstat hini (src := a0) (dst := a) (cs := arrV cI0 n0 (fun j => .int (f j))) (cd := arrV cI0 n1 (fun j => .int (g j))) (srcPos := sp) (destPos := dp) (n := n) (by rw [hT]; exact hc0) (by rw [hT]; exact hc1)
    (fun _ h => by cases h) (fun _ h => by cases h) (fun h => by cases h) (fun h => by cases h) hk0 hk1 hkk0 hkk1 (by simp [hprim]) h1 h2 h3
    (by rw [nn sp h1, nn n h3]; show ¬ _ > ((arrV cI0 n0 (fun j => .int (f j))).slots.size : Int); rw [arrV_size]; omega)
    (by rw [nn dp h2, nn n h3]; show ¬ _ > ((arrV cI0 n1 (fun j => .int (g j))).slots.size : Int); rw [arrV_size]; omega)
    (fun vm₁ _ i hi => by
      have e : (arrV cI0 n0 (fun j => Value.int (f j))).slots.getD (sp.toNatClampNeg + i) .null = .int (f (sp.toNatClampNeg + i)) := by
        rw [Array.getD_eq_getD_getElem?, arrV_read _ _ (by omega)]
        rfl
      refine ⟨?_, ?_⟩
      · rw [e]
        exact hfit _
      · rw [e]
        exact trivial)
    (g := F0 m pc ls (.int n :: .int dp :: .ref a :: .int sp :: .ref a0 :: rest)) rfl (by rw [hml]) (rest := rest) rfl (by rw [hb]; exact hdg) hframes (by show 2 * 0 + _ + _ ≤ _; omega)
  have e1 : copied (arrV cI0 n0 (fun j => .int (f j))) (arrV cI0 n1 (fun j => .int (g j))) sp dp n = arrV cI0 n1 (fun j => .int (va_cpy f g sp.toNatClampNeg dp.toNatClampNeg n.toNatClampNeg j)) := va_copied (fun z => .int z) cI0 cI0 f g h4
  rw [e1] at X' step
  have hl : a < H.size := (Array.getElem?_eq_some_iff.mp hc1).1
  generalize arrV cI0 n1 (fun j => Value.int (va_cpy f g sp.toNatClampNeg dp.toNatClampNeg n.toNatClampNeg j)) = Z at X' step kk
  have hheap : ((T.setVm vm').setCell a Z).heap = H.setIfInBounds a Z := by rw [← hT]; rfl
  have oq : ∀ q : Nat, q ≠ a → (H.setIfInBounds a Z)[q]? = H[q]? := fun q hq => by simp [Array.getElem?_setIfInBounds, Ne.symm hq]
  obtain ⟨t, a1, b1⟩ := kk _ _ (show (H.setIfInBounds a Z)[a]? = some _ by simp [Array.getElem?_setIfInBounds, hl]) (by simp) oq ⟨by simp; exact hS.1, fun q g1 g2 => by
      rw [oq q (fun e => g2 (by rw [e]; exact hA))]
      exact hS.2.1 q g1 g2, fun q hq => by
      rcases List.mem_append.mp hq with h | h
      · exact hS.2.2 q h
      · obtain ⟨z, -, hz⟩ := List.mem_map.mp h
        rw [← hz]
        exact hA⟩ _ hheap X'
  exact ⟨t, step t a1, b1⟩
theorem cpy_lt {a b : Nat} (h : cpy_ok a b = true) : a < 1000 ∧ b < 1000 := by
  unfold cpy_ok at h
  rcases (Bool.or_eq_true _ _).mp h with h | h
  · obtain ⟨h1, h2⟩ := (Bool.and_eq_true _ _).mp h
    rw [Nat.eq_of_beq_eq_true h1, Nat.eq_of_beq_eq_true h2]
    decide
  · rcases (Bool.or_eq_true _ _).mp h with h | h
    · obtain ⟨h1, h2⟩ := (Bool.and_eq_true _ _).mp h
      rw [Nat.eq_of_beq_eq_true h1, Nat.eq_of_beq_eq_true h2]
      decide
    · rcases (Bool.or_eq_true _ _).mp h with h | h
      · obtain ⟨h1, h2⟩ := (Bool.and_eq_true _ _).mp h
        rw [Nat.eq_of_beq_eq_true h1, Nat.eq_of_beq_eq_true h2]
        decide
      · obtain ⟨h1, h2⟩ := (Bool.and_eq_true _ _).mp h
        rw [Nat.eq_of_beq_eq_true h1, Nat.eq_of_beq_eq_true h2]
        decide
theorem cp_fun {f g f' : Nat → Int32} {sp dp n : Nat} (h : ∀ k, f' k = if dp ≤ k ∧ k < dp + n then f (sp + (k - dp)) else g k) : (fun j => Value.int (va_cpy f g sp dp n j)) = fun j => Value.int (f' j) := funext fun j => by rw [h j]; rfl
theorem ac_words : Cond.native arraycopyName ∈ TsT ∧ Cond.static arraycopyName ∈ TsT ∧ Cond.initialized "java/lang/System" ∈ TsT := ⟨TsT_o _ (List.mem_append_left _ (List.mem_cons_of_mem _ (List.mem_cons_of_mem _ List.mem_cons_self))), TsT_o _ (List.mem_append_left _ (List.mem_cons_of_mem _ (List.mem_cons_of_mem _ (List.mem_cons_of_mem _ List.mem_cons_self)))), TsT_o _ (List.mem_append_left _ (List.mem_cons_of_mem _ (List.mem_cons_of_mem _ (List.mem_cons_of_mem _ (List.mem_cons_of_mem _ List.mem_cons_self)))))⟩
theorem oi_words : Cond.instanceMethod objectInit ∈ TsT ∧ Cond.code objectInit ⟨#[0xb1]⟩ 1 none ∈ TsT := ⟨TsT_o _ (List.mem_append_left _ List.mem_cons_self), TsT_o _ (List.mem_append_left _ (List.mem_cons_of_mem _ List.mem_cons_self))⟩
theorem w_acp (hX : sn_X shpT ad base) (hK : va_K D clsT (sn_tys cA) s) (F : CallFix p m c cc nL s args TsT own) (hl : Cond.methodLink own idx arraycopyName ∈ TsT) (hR : 1 ≤ R.frames ∧ 40 ≤ R.locals) (hk : sn_K shpT rfT ftyT D clsT cA ad base stc p l e R s m args below meth c Q md c0 s0 nL out k) (hd : decode cc pc = .ok (.invokestatic idx, 3)) (h : s_call na pACP pc k L st x = some out) : sn_W shpT rfT ftyT D clsT cA ad base stc p l e R s m args below meth c Q md c0 s0 nL pc L st x := by
  intro H locs cells slots ls S
  obtain ⟨as, st', o, q1, q2, q3, q4, q5⟩ := prm_args h
  obtain ⟨w1, w2, w3⟩ := ac_words
  have hrm : ((st'.map (sn_v ad)).map fun v => v.category).sum + (nativeFrameWords "java/lang/System" "arraycopy" 5 + 11) ≤ R.locals := by
    have h9 : nativeFrameWords "java/lang/System" "arraycopy" 5 = 7 := by decide
    rw [sn_cats, h9]
    omega
  unfold pACP at q1
  split at q1
  · next a ia i b ib j n =>
    obtain ⟨g1, g2⟩ := bif_some q1
    obtain ⟨ha, hb9⟩ := cpy_lt g1
    have q3 : st = .inl n :: .inl j :: vR b ib :: .inl i :: vR a ia :: st' := q3
    subst q3
    have okb := sn_hd (sn_tl (sn_tl S.2.2.2.1))
    have oka := sn_hd (sn_tl (sn_tl (sn_tl (sn_tl S.2.2.2.1))))
    have hs2 := sn_tl (sn_tl (sn_tl (sn_tl (sn_tl S.2.2.2.1))))
    obtain ⟨a1, a2, a3⟩ := sn_dyn (nx := 0) hX S.1 oka (Nat.not_le.mpr ha)
    obtain ⟨b1, b2, b3⟩ := sn_dyn (nx := 0) hX S.1 okb (Nat.not_le.mpr hb9)
    unfold sn_at at a3 b3
    have hAb : sn_A base (ad (b + ib)) := by
      show base ≤ ad (b + ib)
      rw [hX.2.2 _ (Nat.lt_of_lt_of_le b1 S.1.2.2.1)]
      omega
    split at g2
    · next nA yA nB yB hsa hsb =>
      obtain ⟨ya, a2⟩ := a2 _ _ _ _ (show shpT a = (1, (nA, (yA.1, yA.2))) from hsa)
      obtain ⟨yb, b2⟩ := b2 _ _ _ _ hsb
      rw [a2] at a3
      rw [b2] at b3
      unfold fACP at g2
      split at g2
      · next hc =>
        cases g2
        refine cp_row F.1 F.2.1 (F.2.2.1.trans S.2.2.1.1.symm) F.2.2.2.1 (F.2.2.2.2 _ hl) (F.2.2.2.2 _ w1) (F.2.2.2.2 _ w2) (F.2.2.2.2 _ w3) hK S.2.1 0 rfl rfl a3 b3 hAb (Int32.not_lt.mpr hc.1.1) (Int32.not_lt.mpr hc.1.2.1) (Int32.not_lt.mpr hc.1.2.2) hc.2.1 hc.2.2 (fun _ => rfl) hR.1 hrm hd fun H1 locs1 o1 o2 o3 hS1 => ?_
        refine hk _ _ _ _ q4 H1 locs1 cells slots ls ⟨S.1.upd hX b1 (fun q hq j' => if_neg fun z => hq z.1) (fun _ _ _ => rfl) rfl o2 o3 ?_, hS1, S.2.2.1, hs2, S.2.2.2.2.1, S.2.2.2.2.2⟩
        unfold sn_at
        rw [b2]
        rw [cp_fun (f' := (cpM x (a + ia) (b + ib) (ix i) (ix j) (ix n)).1 (b + ib)) (fun k' => by simp only [cpM, true_and]; rfl)] at o1
        exact o1
      · cases g2
    · next nA yA nB yB hsa hsb =>
      obtain ⟨ya, a2⟩ := a2 _ _ _ _ (show shpT a = (2, (nA, (yA.1, yA.2))) from hsa)
      obtain ⟨yb, b2⟩ := b2 _ _ _ _ hsb
      rw [a2] at a3
      rw [b2] at b3
      unfold fACP at g2
      split at g2
      · next hc =>
        cases g2
        refine cp_row F.1 F.2.1 (F.2.2.1.trans S.2.2.1.1.symm) F.2.2.2.1 (F.2.2.2.2 _ hl) (F.2.2.2.2 _ w1) (F.2.2.2.2 _ w2) (F.2.2.2.2 _ w3) hK S.2.1 1 rfl rfl a3.1 b3.1 hAb (Int32.not_lt.mpr hc.1.1) (Int32.not_lt.mpr hc.1.2.1) (Int32.not_lt.mpr hc.1.2.2) hc.2.1 hc.2.2 a3.2 hR.1 hrm hd fun H1 locs1 o1 o2 o3 hS1 => ?_
        refine hk _ _ _ _ q4 H1 locs1 cells slots ls ⟨S.1.upd hX b1 (fun q hq j' => if_neg fun z => hq z.1) (fun _ _ _ => rfl) rfl o2 o3 ?_, hS1, S.2.2.1, hs2, S.2.2.2.2.1, S.2.2.2.2.2⟩
        unfold sn_at
        rw [b2]
        rw [cp_fun (f' := (cpM x (a + ia) (b + ib) (ix i) (ix j) (ix n)).1 (b + ib)) (fun k' => by simp only [cpM, true_and]; rfl)] at o1
        refine ⟨o1, fun q => ?_⟩
        show fits .byte (.int (if b + ib = b + ib ∧ ix j ≤ q ∧ q < ix j + ix n then x.1 (a + ia) (ix i + (q - ix j)) else x.1 (b + ib) q)) = true
        split
        · exact a3.2 _
        · exact b3.2 _
      · cases g2
    · cases g2
  · cases q1
end PRM
