/-! ===== SOUNDNESS: fields, constants, switches ===== -/
section FLD
variable {shp : Nat → Nat × (Nat × (Nat × Nat))} {rfT : Nat → Nat → Nat} {fty : Nat → Nat → Nat} {D : va_G} {cls : List vw_C} {cA : Nat → ClassId} {ad : Nat → Nat} {base : Nat} {stc : Nat → Nat → Int32}
variable {md : Bool} {x x' : ev_M} {H H' : Heap} {g : Nat}
variable {p : Program} {l : Launch} {e : Env} {R : Room} {s : State} {m : MethodId} {args : Array Value} {below : List Frame} {meth : Method} {c : Code} {Q : State → Prop} {cc : ByteArray} {c0 s0 nL : Nat} {out : ev_O}
variable {pc n r i : Nat} {k : ev_K} {L : ev_L} {st : List ev_V}
def sn_C (cls : List vw_C) (Ts : List Cond) : Prop := ∀ (ci : Nat) (rr : vw_C), cls[ci]? = some rr → (∀ w ∈ u_ws rr.1 rr.2.1 rr.2.2, w ∈ Ts) ∧ (∃ ty0 : Nat → FieldType, ∀ k, k < rr.2.2 → parseFieldDescriptor (rr.2.1 k).2.2.1 = some (ty0 k)) ∧ (∀ a, a < rr.2.2 → ∀ b, b < rr.2.2 → a ≠ b → (rr.2.1 a).2.1 ≠ (rr.2.1 b).2.1)
/-- a field by its resolved operand -/
def sn_F (cls : List vw_C) (fty : Nat → Nat → Nat) (Ts : List Cond) (own : String) (index r : Nat) : Prop := ∃ rr : vw_C, cls[r / 1024]? = some rr ∧ r % 1024 / 4 < rr.2.2 ∧ Cond.fieldLink own index (rr.2.1 (r % 1024 / 4)).1 (rr.2.1 (r % 1024 / 4)).2.1 (rr.2.1 (r % 1024 / 4)).2.2.1 ∈ Ts ∧ fty (r / 1024) (r % 1024 / 4) = r % 4
variable {Ts : List Cond} {own : String} {index : Nat}
theorem sn_getf {v : Value} {ls : Array Slot} {locs : List Loc} {cells slots : Nat} {rest : List Value} {rr : vw_C} {q : Nat} (hx : p.tables.exec = Jvm.exec) (hb : c.code = cc) (hts : ∀ w ∈ Ts, w.before args s = true) (hown : s.vm.findClass own = some m.cls) (hC : sn_C cls Ts) (hK : va_K D cls (sn_tys cA) s) (hF : sn_F cls fty Ts own index r) (hci : cls[r / 1024]? = some rr) (ho : t_OB q (D.1 (r / 1024)) rr.2.2 (D.2 (r / 1024)) H (sn_fv rfT fty ad md x g (r / 1024))) (hv : sn_fv rfT fty ad md x g (r / 1024) (r % 1024 / 4) = v) (hd : decode cc pc = .ok (.getfield index, 3)) (kk : W p l e R s m args below meth c H locs cells slots Q (F0 m (pc + 3) ls (v :: rest))) : W p l e R s m args below meth c H locs cells slots Q (F0 m pc ls (.ref q :: rest)) := by
  obtain ⟨cell, q1, q2, q3, q4⟩ := ho
  obtain ⟨rr', f1, f2, f3, f4⟩ := hF
  cases hci.symm.trans f1
  obtain ⟨hS, hfc, kC, hkC, hkind⟩ := hK.1 _ _ hci
  obtain ⟨cf, kf, fi, f, hi, hsl⟩ := hS _ f2
  refine W.getf hx hb hown (hts _ f3) hi (u_facts hfc hkC (u_lays hts (hC _ _ hci).1 f2) hi).1 q1 (by rw [q3]; exact fun h => by cases h) (v := v) ?_ rfl rfl hd kk
  rw [hsl, q4 _ f2, hv]
theorem sn_obj {ci i : Nat} {w : Nat × Nat} (hX : sn_X shp ad base) (h : sn_HR shp rfT fty D cls cA ad base stc md x H) (hv : sn_okv shp x.2.2.1 (vR g i)) (hs : shp g = (0, (ci, w))) (hst : ∀ g w, shp g = (0, w) → g < 1000) : i = 0 ∧ g < x.2.2.1 ∧ ∃ rr : vw_C, cls[ci]? = some rr ∧ t_OB (ad g) (D.1 ci) rr.2.2 (D.2 ci) H (sn_fv rfT fty ad md x g ci) := by
  have hg := hst _ _ hs
  obtain ⟨h1, h2, h3⟩ := sn_dyn (nx := 0) hX h hv (by omega)
  have hi : i = 0 := by
    have := hv.2
    rw [hs] at this
    exact Nat.lt_one_iff.mp this
  subst hi
  rw [Nat.add_zero] at h3
  unfold sn_at at h3
  rw [hs] at h3
  exact ⟨rfl, h1, h3⟩
theorem w_get (hx : p.tables.exec = Jvm.exec) (hb : c.code = cc) (hX : sn_X shp ad base) (hst : ∀ g w, shp g = (0, w) → g < 1000) (hts : ∀ w ∈ Ts, w.before args s = true) (hown : s.vm.findClass own = some m.cls) (hC : sn_C cls Ts) (hK : va_K D cls (sn_tys cA) s) (hF : sn_F cls fty Ts own index r) (hk : sn_K shp rfT fty D cls cA ad base stc p l e R s m args below meth c Q md c0 s0 nL out k) (hd : decode cc pc = .ok (.getfield index, n) ∧ n = 3) (hmd : md = true → r % 4 = 3 → ∀ g i st', st = vR g i :: st' → x.2.2.2.1 g (r % 1024 / 4) = true) (h : s_get shp rfT r pc n k L st x = some out) : sn_W shp rfT fty D cls cA ad base stc p l e R s m args below meth c Q md c0 s0 nL pc L st x := by
  intro H locs cells slots ls S
  obtain ⟨hd, rfl⟩ := hd
  unfold s_get at h
  split at h
  · next g i st' =>
    split at h
    · next ci w hs =>
      obtain ⟨rfl, hg, rr, hci, ho⟩ := sn_obj hX S.1 (sn_hd S.2.2.2.1) hs hst
      cases hq : Nat.beq ci (r / 1024) with
      | false => rw [hq] at h; cases h
      | true =>
        have hq2 : ci = r / 1024 := Nat.eq_of_beq_eq_true hq
        subst hq2
        rw [hq] at h
        have hty := hF
        obtain ⟨rr', f1, f2, f3, f4⟩ := hty
        simp only [cond_true] at h
        split at h
        · next e0 =>
          exact sn_getf hx hb hts hown hC hK hF hci ho (v := .int (x.1 g (r % 1024 / 4))) (by simp only [sn_fv, f4, e0]) hd (hk _ _ _ _ h H locs cells slots ls (S.stk (sn_ok1 trivial (sn_tl S.2.2.2.1))))
        · next e0 =>
          exact sn_getf hx hb hts hown hC hK hF hci ho (v := .long (x.2.1 g (r % 1024 / 4))) (by simp only [sn_fv, f4, e0]) hd (hk _ _ _ _ h H locs cells slots ls (S.stk (sn_ok1 trivial (sn_tl S.2.2.2.1))))
        · next e0 =>
          exact sn_getf hx hb hts hown hC hK hF hci ho (v := .int (x.1 g (r % 1024 / 4))) (by simp only [sn_fv, f4, e0]) hd (hk _ _ _ _ h H locs cells slots ls (S.stk (sn_ok1 trivial (sn_tl S.2.2.2.1))))
        · next n0 n1 n2 =>
          have e3 : r % 4 = 3 := by
            rcases (by omega : r % 4 = 0 ∨ r % 4 = 1 ∨ r % 4 = 2 ∨ r % 4 = 3) with q | q | q | q
            · exact absurd q n0
            · exact absurd q n1
            · exact absurd q n2
            · exact q
          have hset : md = true → x.2.2.2.1 g (r % 1024 / 4) = true := fun hm => hmd hm e3 g 0 st' rfl
          have hok := S.1.2.2.2.2.2 g hg _ _ hs _ (f4.trans e3) hset
          refine sn_getf hx hb hts hown hC hK hF hci ho (v := .ref (ad (rfT g (r % 1024 / 4)))) ?_ hd (hk _ _ _ _ h H locs cells slots ls (S.stk (sn_ok1 hok (sn_tl S.2.2.2.1))))
          unfold sn_fv
          rw [f4, e3]
          show (if _ then _ else _) = _
          rw [if_neg]
          intro z
          have := hset z.1
          rw [z.2] at this
          cases this
    · cases h
  · cases h
/-- a field is written: what stands there then -/
theorem sn_putf {v : Value} {ls : Array Slot} {locs : List Loc} {cells slots : Nat} {rest : List Value} {rr : vw_C} {q ci fk : Nat} {V : Nat → Value} {ty : FieldType} (hx : p.tables.exec = Jvm.exec) (hb : c.code = cc) (hts : ∀ w ∈ Ts, w.before args s = true) (hown : s.vm.findClass own = some m.cls) (hC : sn_C cls Ts) (hK : va_K D cls (sn_tys cA) s) (hci : cls[ci]? = some rr) (f2 : fk < rr.2.2) (f3 : Cond.fieldLink own index (rr.2.1 fk).1 (rr.2.1 fk).2.1 (rr.2.1 fk).2.2.1 ∈ Ts) (ho : t_OB q (D.1 ci) rr.2.2 (D.2 ci) H V) (hfin : (rr.2.1 fk).2.2.2 = false ∨ (meth.name = "<init>" ∧ (rr.2.1 fk).1 = own)) (hdd : parseFieldDescriptor (rr.2.1 fk).2.2.1 = some ty) (hn : narrow ty v = v) (hfit : fits ty v = true) (hd : decode cc pc = .ok (.putfield index, 3)) (kk : ∀ (H1 : Heap) (j : Nat), t_OB q (D.1 ci) rr.2.2 (D.2 ci) H1 (updV V fk v) → H1.size = H.size → (∀ a : Nat, a ≠ q → H1[a]? = H[a]?) → W p l e R s m args below meth c H1 (locs ++ [⟨q, j⟩]) cells slots Q (F0 m (pc + 3) ls rest)) : W p l e R s m args below meth c H locs cells slots Q (F0 m pc ls (v :: .ref q :: rest)) := by
  obtain ⟨hin, ⟨ty0, hty⟩, hnm⟩ := hC _ _ hci
  have hap := va_apart (own := own) hts hin ty0 hty hnm hK hci
  obtain ⟨cell, q1, q2, q3, q4⟩ := ho
  obtain ⟨hS, hfc, kC, hkC, hkind⟩ := hK.1 _ _ hci
  obtain ⟨cf, kf, fi, f, hi, hsl⟩ := hS _ f2
  have hst := (u_facts hfc hkC (u_lays hts hin f2) hi).1
  have hlay := hts _ (hin _ (u_in_lay f2))
  unfold u_lay at hlay
  cases hf : (rr.2.1 fk).2.2.2 with
  | false =>
    rw [if_neg (by rw [hf]; decide)] at hlay
    have h6 := u_store hfc hkC hkind hlay hi hdd hn hfit
    refine W.putK hx hb (f := f) ⟨hown, hts _ f3, ⟨_, _, _, hi⟩, hst⟩ (by rw [q2]; exact h6) q1 q3 (by rw [hsl]; exact k2_hasslot (q4 _ f2)) rfl rfl hd fun H' e1 e2 e3 => ?_
    rw [hsl] at e1 ⊢
    exact kk H' _ ⟨_, e1, q2, q3, t_set q4 hap f2 v⟩ e2 e3
  | true =>
    obtain ⟨hin2, hdecl⟩ := hfin.resolve_left (by rw [hf]; decide)
    rw [if_pos hf] at hlay
    have hcf : m.cls = cf := by
      obtain ⟨_, _, c', _, _, _, -, -, hf', -, -, -, hown2, -⟩ := Cond.laysFinal_spec hlay
      have e1 : c' = cf := by have := hi.symm.trans hf'; simp at this; exact this.1.symm
      rw [hdecl] at hown2
      rw [← e1]; exact Option.some.inj (hown.symm.trans hown2)
    have h6 := u_fits hfc hkC hkind (Or.inr hlay) hi hdd hn hfit
    refine W.putFinK hx hb hown (hts _ f3) hi hst hcf hin2 (by rw [q2]; exact h6) q1 q3 (by rw [hsl]; exact k2_hasslot (q4 _ f2)) rfl rfl hd fun H' e1 e2 e3 => ?_
    rw [hsl] at e1 ⊢
    exact kk H' _ ⟨_, e1, q2, q3, t_set q4 hap f2 v⟩ e2 e3
/-- what may be written: not a final field, but in its class's constructor; the field's type -/
def sn_P (cls : List vw_C) (own name : String) (r : Nat) : Prop := ∀ rr : vw_C, cls[r / 1024]? = some rr → ((rr.2.1 (r % 1024 / 4)).2.2.2 = false ∨ (name = "<init>" ∧ (rr.2.1 (r % 1024 / 4)).1 = own)) ∧ ∃ ty, parseFieldDescriptor (rr.2.1 (r % 1024 / 4)).2.2.1 = some ty ∧ (r % 4 = 0 → ty = .int) ∧ (r % 4 = 1 → ty = .long) ∧ (r % 4 = 2 → ty = .boolean) ∧ (r % 4 = 3 → ty.isReference = true)
theorem sn_nz (z : Int32) (h : bz z = true) : narrow .boolean (.int z) = .int z ∧ fits .boolean (.int z) = true := by
  unfold bz at h
  rcases (Bool.or_eq_true _ _).mp h with h | h
  · rw [of_decide_eq_true h]; exact ⟨rfl, rfl⟩
  · rw [of_decide_eq_true h]; exact ⟨rfl, rfl⟩
theorem w_put (hx : p.tables.exec = Jvm.exec) (hb : c.code = cc) (hX : sn_X shp ad base) (hst : ∀ g w, shp g = (0, w) → g < 1000) (hts : ∀ w ∈ Ts, w.before args s = true) (hown : s.vm.findClass own = some m.cls) (hC : sn_C cls Ts) (hK : va_K D cls (sn_tys cA) s) (hF : sn_F cls fty Ts own index r) (hP : sn_P cls own meth.name r) (hk : sn_K shp rfT fty D cls cA ad base stc p l e R s m args below meth c Q md c0 s0 nL out k) (hd : decode cc pc = .ok (.putfield index, n) ∧ n = 3) (h : s_put shp r pc n k L st x = some out) : sn_W shp rfT fty D cls cA ad base stc p l e R s m args below meth c Q md c0 s0 nL pc L st x := by
  intro H locs cells slots ls S
  obtain ⟨hd, rfl⟩ := hd
  unfold s_put at h
  split at h
  · next v g i st' =>
    have hok := sn_hd (sn_tl S.2.2.2.1)
    have htl := sn_tl (sn_tl S.2.2.2.1)
    split at h
    · next ci w hs =>
      obtain ⟨rfl, hg, rr, hci, ho⟩ := sn_obj hX S.1 hok hs hst
      cases hq : Nat.beq ci (r / 1024) with
      | false => rw [hq] at h; cases h
      | true =>
        have hq2 : ci = r / 1024 := Nat.eq_of_beq_eq_true hq
        subst hq2
        rw [hq] at h
        obtain ⟨rr', f1, f2, f3, f4⟩ := hF
        cases hci.symm.trans f1
        obtain ⟨hfin, ty, hdd, t0, t1, t2, t3⟩ := hP _ hci
        simp only [cond_true] at h
        split at h
        · next z e0 =>
          refine sn_putf hx hb hts hown hC hK hci f2 f3 ho hfin hdd (by rw [t0 e0]; rfl) (by rw [t0 e0]; rfl) hd fun H1 j o1 o2 o3 => hk _ _ _ _ h H1 _ cells slots ls (S.put (g := g) hX hg htl (fun q hq b => u2_ne _ hq _ _ _) (fun _ _ _ => rfl) rfl o2 o3 ?_)
          unfold sn_at
          rw [hs]
          refine ⟨rr, hci, o1.to fun j' _ => ?_⟩
          show updV _ _ _ j' = _
          unfold updV sn_fv wI
          by_cases hj : j' = r % 1024 / 4
          · subst hj; rw [if_pos rfl]; simp only [f4, e0]; simp [u2, sn_v]
          · rw [if_neg hj]
            split <;> simp [u2, hj]
        · next z e0 =>
          refine sn_putf hx hb hts hown hC hK hci f2 f3 ho hfin hdd (by rw [t1 e0]; rfl) (by rw [t1 e0]; rfl) hd fun H1 j o1 o2 o3 => hk _ _ _ _ h H1 _ cells slots ls (S.put (g := g) hX hg htl (fun _ _ _ => rfl) (fun q hq b => u2_ne _ hq _ _ _) rfl o2 o3 ?_)
          unfold sn_at
          rw [hs]
          refine ⟨rr, hci, o1.to fun j' _ => ?_⟩
          show updV _ _ _ j' = _
          unfold updV sn_fv wL
          by_cases hj : j' = r % 1024 / 4
          · subst hj; rw [if_pos rfl]; simp only [f4, e0]; simp [u2, sn_v]
          · rw [if_neg hj]
            split <;> simp [u2, hj]
        · next z e0 =>
          split at h
          · next hz =>
            obtain ⟨z1, z2⟩ := sn_nz z hz
            refine sn_putf hx hb hts hown hC hK hci f2 f3 ho hfin hdd (by rw [t2 e0]; exact z1) (by rw [t2 e0]; exact z2) hd fun H1 j o1 o2 o3 => hk _ _ _ _ h H1 _ cells slots ls (S.put (g := g) hX hg htl (fun q hq b => u2_ne _ hq _ _ _) (fun _ _ _ => rfl) rfl o2 o3 ?_)
            unfold sn_at
            rw [hs]
            refine ⟨rr, hci, o1.to fun j' _ => ?_⟩
            show updV _ _ _ j' = _
            unfold updV sn_fv wI
            by_cases hj : j' = r % 1024 / 4
            · subst hj; rw [if_pos rfl]; simp only [f4, e0]; simp [u2, sn_v]
            · rw [if_neg hj]
              split <;> simp [u2, hj]
          · cases h
        · cases h
    · cases h
  · cases h
theorem w_alen (hx : p.tables.exec = Jvm.exec) (hb : c.code = cc) (hX : sn_X shp ad base) (hK : va_K D cls (sn_tys cA) s) (hst : sn_st base ad stc shp s) (hk : sn_K shp rfT fty D cls cA ad base stc p l e R s m args below meth c Q md c0 s0 nL out k) (hd : decode cc pc = .ok (.arraylength, 1)) (h : s_alen shp pc k L st x = some out) : sn_W shp rfT fty D cls cA ad base stc p l e R s m args below meth c Q md c0 s0 nL pc L st x := by
  intro H locs cells slots ls S
  unfold s_alen at h
  split at h
  · next g i st' =>
    have hok := sn_hd S.2.2.2.1
    have hi : 1000 ≤ g → i = 0 := fun hg => by
      rcases hok.1 with ⟨-, z⟩ | ⟨-, z⟩
      · exact absurd hg (Nat.not_le.mpr z)
      · exact z
    split at h
    · next w hs =>
      by_cases hg : 1000 ≤ g
      · cases hi hg
        have h9 := (hst g hg).2.1 w hs
        refine va_tlen hx hb h9.1 S.2.1 (v := x.1 1021 0) ?_ hd (hk _ _ _ _ h H locs cells slots ls (S.stk (sn_ok1 trivial (sn_tl S.2.2.2.1))))
        rw [S.1.2.1 1021 (by decide) 0]
        exact h9.2.symm
      · obtain ⟨h1, h2, h3⟩ := sn_dyn (nx := 0) hX S.1 hok hg
        unfold sn_at at h3
        obtain ⟨y9, h2⟩ := h2 _ _ _ _ hs
        rw [h2] at h3
        exact h3.elim
    · next nn w hs =>
      by_cases hg : 1000 ≤ g
      · cases hi hg
        exact va_tlen hx hb ((hst g hg).1 nn w hs) S.2.1 (v := cI nn) rfl hd (hk _ _ _ _ h H locs cells slots ls (S.stk (sn_ok1 trivial (sn_tl S.2.2.2.1))))
      · obtain ⟨h1, h2, h3⟩ := sn_dyn (nx := 0) hX S.1 hok hg
        unfold sn_at at h3
        obtain ⟨y9, h2⟩ := h2 _ _ _ _ hs
        rw [h2] at h3
        exact W.alen hx hb h3 ((hK.2 0 _ rfl).1 nn _) (n := cI nn) (by rw [arrV_size]; rfl) rfl rfl hd (hk _ _ _ _ h H locs cells slots ls (S.stk (sn_ok1 trivial (sn_tl S.2.2.2.1))))
    · next nn w hs =>
      by_cases hg : 1000 ≤ g
      · have := (hst g hg).2.2 _ _ hs; omega
      · obtain ⟨h1, h2, h3⟩ := sn_dyn (nx := 0) hX S.1 hok hg
        unfold sn_at at h3
        obtain ⟨y9, h2⟩ := h2 _ _ _ _ hs
        rw [h2] at h3
        exact W.alen hx hb h3.1 ((hK.2 1 _ rfl).1 nn _) (n := cI nn) (by rw [arrV_size]; rfl) rfl rfl hd (hk _ _ _ _ h H locs cells slots ls (S.stk (sn_ok1 trivial (sn_tl S.2.2.2.1))))
    · next nn w hs =>
      by_cases hg : 1000 ≤ g
      · have := (hst g hg).2.2 _ _ hs; omega
      · obtain ⟨h1, h2, h3⟩ := sn_dyn (nx := 0) hX S.1 hok hg
        unfold sn_at at h3
        obtain ⟨y9, h2⟩ := h2 _ _ _ _ hs
        rw [h2] at h3
        exact W.alen hx hb h3 ((hK.2 3 _ rfl).1 nn _) (n := cI nn) (by rw [arrV_size]; rfl) rfl rfl hd (hk _ _ _ _ h H locs cells slots ls (S.stk (sn_ok1 trivial (sn_tl S.2.2.2.1))))
    · cases h
  · cases h
end FLD
