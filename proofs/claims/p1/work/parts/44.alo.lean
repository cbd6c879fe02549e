/-! ===== SOUNDNESS: switches; cells that are made ===== -/
section SWI
variable {shp : Nat → Nat × (Nat × (Nat × Nat))} {rfT : Nat → Nat → Nat} {fty : Nat → Nat → Nat} {D : va_G} {cls : List vw_C} {cA : Nat → ClassId} {ad : Nat → Nat} {base : Nat} {stc : Nat → Nat → Int32}
variable {md : Bool} {x x' : ev_M} {H H' : Heap} {g : Nat}
variable {p : Program} {l : Launch} {e : Env} {R : Room} {s : State} {m : MethodId} {args : Array Value} {below : List Frame} {meth : Method} {c : Code} {Q : State → Prop} {cc : ByteArray} {c0 s0 nL : Nat} {out : ev_O}
variable {pc n r i : Nat} {k : ev_K} {L : ev_L} {st : List ev_V}
theorem s_tab_some {y : Int32} {d : Int} : ∀ (os : List Int) (v : Int), s_tab pc k L st x y d os v = some out → (∃ (i : Nat) (o : Int), os[i]? = some o ∧ y = cI (v + i) ∧ k ((pc : Int) + o).toNat L st x = some out) ∨ ((∀ i : Nat, i < os.length → y ≠ cI (v + i)) ∧ k ((pc : Int) + d).toNat L st x = some out)
  | [], v, h => Or.inr ⟨fun i hi => absurd hi (Nat.not_lt_zero i), h⟩
  | o :: r, v, h => by
    have h9 : (if y = cI v then k ((pc : Int) + o).toNat L st x else s_tab pc k L st x y d r (v + 1)) = some out := h
    split at h9
    · next e1 => exact Or.inl ⟨0, o, rfl, by simpa using e1, h9⟩
    · next e1 =>
      rcases s_tab_some r (v + 1) h9 with ⟨i, o', f1, f2, f3⟩ | ⟨f1, f2⟩
      · exact Or.inl ⟨i + 1, o', f1, by rw [f2]; congr 1; push_cast; omega, f3⟩
      · refine Or.inr ⟨fun i hi => ?_, f2⟩
        cases i with
        | zero => simpa using e1
        | succ i =>
          have := f1 i (by simpa using hi)
          intro z
          exact this (by rw [z]; congr 1; push_cast; omega)
theorem cI_of (y : Int32) : cI y.toInt = y := Int32.ofInt_toInt y
theorem w_tab {d lo hi : Int} {os : Array Int} {len : Nat} (hx : p.tables.exec = Jvm.exec) (hb : c.code = cc) (hk : sn_K shp rfT fty D cls cA ad base stc p l e R s m args below meth c Q md c0 s0 nL out k) (hd : decode cc pc = .ok (.tableswitch d lo hi os, len)) (h1 : -2147483648 ≤ lo) (h2 : hi < 2147483648) (h3 : hi = lo + os.toList.length - 1) (h4 : 0 ≤ (pc : Int) + d) (h5 : ∀ o ∈ os.toList, 0 ≤ (pc : Int) + o) (h : (match st with
    | .inl y :: st => s_tab pc k L st x y d os.toList lo
    | _ => none) = some out) : sn_W shp rfT fty D cls cA ad base stc p l e R s m args below meth c Q md c0 s0 nL pc L st x := by
  intro H locs cells slots ls S
  split at h
  · next y st' =>
    have S' := S.stk (sn_tl S.2.2.2.1)
    rcases s_tab_some _ _ h with ⟨i, o, f1, f2, f3⟩ | ⟨f1, f2⟩
    · have hi' : i < os.toList.length := (List.getElem?_eq_some_iff.mp f1).1
      have hy : y.toInt = lo + i := by rw [f2, cI_toInt (by omega) (by omega)]
      refine lv_tableIn hx hb (off := o) (tgt := ((pc : Int) + o).toNat) hd (by omega) (by omega) ?_ ?_ (hk _ _ _ _ f3 H locs cells slots ls S')
      · rw [hy, show (lo + (i : Int) - lo).toNat = i by omega, ← Array.getElem?_toList]
        exact f1
      · rw [Int.toNat_of_nonneg (h5 o (List.mem_of_getElem? f1))]
    · refine lv_tableOut hx hb (tgt := ((pc : Int) + d).toNat) hd ?_ (by rw [Int.toNat_of_nonneg h4]) (hk _ _ _ _ f2 H locs cells slots ls S')
      apply Classical.byContradiction
      intro z
      have hlo : lo ≤ y.toInt := by omega
      have hhi : y.toInt ≤ hi := by omega
      refine f1 (y.toInt - lo).toNat (by omega) ?_
      rw [show lo + ((y.toInt - lo).toNat : Int) = y.toInt by omega, cI_of]
  · cases h
theorem s_lkp_some {y : Int32} {d : Int} : ∀ (ps : List (Int × Int)), (∀ q ∈ ps, -2147483648 ≤ q.1 ∧ q.1 < 2147483648) → s_lkp pc k L st x y d ps = some out → k ((pc : Int) + Op.lookupswitch.offset ps d y.toInt).toNat L st x = some out
  | [], _, h => h
  | (v, o) :: r, hv, h => by
    have h9 : (if y = cI v then k ((pc : Int) + o).toNat L st x else s_lkp pc k L st x y d r) = some out := h
    have hb := hv (v, o) List.mem_cons_self
    rw [Op.lookupswitch.offset_cons]
    split at h9
    · next e1 =>
      have e2 : y.toInt = v := by rw [e1, cI_toInt hb.1 hb.2]
      rw [if_pos (by first | exact e2 | exact e2.symm | simpa using e2 | simpa using e2.symm)]
      exact h9
    · next e1 =>
      have e2 : ¬ y.toInt = v := fun z => e1 (by rw [← z, cI_of])
      rw [if_neg (by first | exact e2 | exact fun z => e2 z.symm | simpa using e2 | simpa using fun z : v = y.toInt => e2 z.symm)]
      exact s_lkp_some r (fun q hq => hv q (List.mem_cons_of_mem _ hq)) h9
theorem w_lkp {d : Int} {ps : Array (Int × Int)} {len : Nat} (hx : p.tables.exec = Jvm.exec) (hb : c.code = cc) (hk : sn_K shp rfT fty D cls cA ad base stc p l e R s m args below meth c Q md c0 s0 nL out k) (hd : decode cc pc = .ok (.lookupswitch d ps, len)) (h1 : ∀ q ∈ ps.toList, -2147483648 ≤ q.1 ∧ q.1 < 2147483648) (h2 : (ps.toList.zip (ps.toList.drop 1)).all (fun (a, next) => a.1 < next.1) = true) (h3 : ∀ z : Int, 0 ≤ (pc : Int) + Op.lookupswitch.offset ps.toList d z) (h : (match st with
    | .inl y :: st => s_lkp pc k L st x y d ps.toList
    | _ => none) = some out) : sn_W shp rfT fty D cls cA ad base stc p l e R s m args below meth c Q md c0 s0 nL pc L st x := by
  intro H locs cells slots ls S
  split at h
  · next y st' =>
    have S' := S.stk (sn_tl S.2.2.2.1)
    exact lv_lookup hx hb (tgt := ((pc : Int) + Op.lookupswitch.offset ps.toList d y.toInt).toNat) hd h2 rfl (by rw [Int.toNat_of_nonneg (h3 _)]) (hk _ _ _ _ (s_lkp_some _ h1 h) H locs cells slots ls S')
  · cases h
/-- what a continuation may not do: give cells back -/
def sn_mono (k : ev_K) (out : ev_O) : Prop := ∀ (pc : Nat) (L : ev_L) (st : List ev_V) (x : ev_M), k pc L st x = some out → x.2.2.2.2.1 ≤ out.1.2.2.2.2.1 ∧ x.2.2.2.2.2 ≤ out.1.2.2.2.2.2
/-- the room of a frame -/
def sn_R (R : Room) (c0 s0 : Nat) (out : ev_O) : Prop := out.1.2.2.2.2.1 ≤ R.cells + c0 ∧ out.1.2.2.2.2.2 ≤ R.slots + s0
theorem z_row_lo {α : Type} {z : α} {lo hi : Nat} {f : Nat → Nat → α} {a : Nat} (h : a < lo) (b : Nat) : z_row z lo hi f a b = f a b := by
  unfold z_row
  rw [if_neg (by omega)]
theorem z_row_hi {α : Type} {z : α} {lo hi : Nat} {f : Nat → Nat → α} {a : Nat} (h : hi ≤ a) (b : Nat) : z_row z lo hi f a b = f a b := by
  unfold z_row
  rw [if_neg (by omega)]
theorem z_row_in {α : Type} {z : α} {lo hi : Nat} {f : Nat → Nat → α} {a : Nat} (h : lo ≤ a) (h2 : a < hi) (b : Nat) : z_row z lo hi f a b = z := by
  unfold z_row
  rw [if_pos ⟨h, h2⟩]
/-- cells come: the relation goes on, if the new ones are as they should be -/
theorem sn_S.make (hX : sn_X shp ad base) {locs : List Loc} {cells slots : Nat} {ls : Array Slot} {nn w : Nat} {st' : List ev_V} (S : sn_S shp rfT fty D cls cA ad base stc true s c0 s0 nL x H locs cells slots ls L st) (h1000 : x.2.2.1 + nn ≤ 1000) (hz : H'.size = H.size + nn) (ho : ∀ q : Nat, q < H.size → H'[q]? = H[q]?) (hn : ∀ j, j < nn → sn_at shp rfT fty D cls cA ad true (s_make nn w x) H' (x.2.2.1 + j)) (h5 : ∀ g, x.2.2.1 ≤ g → g < x.2.2.1 + nn → ∀ n f w, shp g = (5, (n, (f, w))) → f + n ≤ x.2.2.1 + nn) (hs : ∀ v ∈ st', sn_okv shp (x.2.2.1 + nn) v) : sn_S shp rfT fty D cls cA ad base stc true s c0 s0 nL (s_make nn w x) H' locs (cells + nn) (slots + w) ls L st' := by
  obtain ⟨⟨a1, a2, a3, a4, a5, a6⟩, b, cc1, d, e1, e2⟩ := S
  have a4 := a4 rfl
  refine ⟨⟨fun g hg => ?_, fun g hg j => ?_, h1000, fun _ => ?_, fun g hg n f w hs => ?_, fun g hg ci w hs k' hk hS => ?_⟩, ⟨by rw [hz]; have := b.1; omega, fun q h1 h2 => ?_, b.2.2⟩, cc1.mono shp ad (Nat.le_add_right _ _), hs, ?_, ?_⟩
  · show sn_at shp rfT fty D cls cA ad true (s_make nn w x) H' g
    by_cases h : g < x.2.2.1
    · refine (a1 g h).kept _ _ _ _ _ _ _ (ho _ ?_) (fun j => z_row_lo h j) (fun j => z_row_lo h j) (fun j => z_row_lo h j)
      rw [hX.2.2 g (by omega)]
      omega
    · have := hn (g - x.2.2.1) (by have : g < x.2.2.1 + nn := hg; omega)
      rwa [show x.2.2.1 + (g - x.2.2.1) = g by omega] at this
  · show z_row 0 _ _ x.1 g j = _
    rw [z_row_hi (by omega)]
    exact a2 g hg j
  · show H'.size = base + (x.2.2.1 + nn)
    omega
  · show f + n ≤ x.2.2.1 + nn
    by_cases h : g < x.2.2.1
    · have := a5 g h n f w hs
      omega
    · exact h5 g (by omega) hg n f w hs
  · have hS' : z_row false x.2.2.1 (x.2.2.1 + nn) x.2.2.2.1 g k' = true := hS rfl
    by_cases h : g < x.2.2.1
    · rw [z_row_lo h] at hS'
      exact (a6 g h ci w hs k' hk (fun _ => hS')).mono shp (Nat.le_add_right _ _)
    · have hg' : g < x.2.2.1 + nn := hg
      rw [z_row_in (by omega) hg'] at hS'
      cases hS'
  · rw [ho q (by have := b.1; omega)]
    exact b.2.1 q h1 h2
  · show cells + nn + c0 = x.2.2.2.2.1 + nn
    omega
  · show slots + w + s0 = x.2.2.2.2.2 + w
    omega
variable {Ts : List Cond} {own : String} {index : Nat}
/-- the types of a class's fields, against the table -/
def sn_Ty (cls : List vw_C) (fty : Nat → Nat → Nat) : Prop := ∀ (ci : Nat) (rr : vw_C), cls[ci]? = some rr → ∃ ty : Nat → FieldType, (∀ k, k < rr.2.2 → parseFieldDescriptor (rr.2.1 k).2.2.1 = some (ty k)) ∧ ∀ k, k < rr.2.2 → defaultValue (ty k) = (match fty ci k with
  | 1 => .long 0
  | 3 => .null
  | _ => .int 0)
theorem w_new (hx : p.tables.exec = Jvm.exec) (hb : c.code = cc) (hX : sn_X shp ad base) (hst : ∀ g w, shp g = (0, w) → g < 1000) (hts : ∀ w ∈ Ts, w.before args s = true) (hown : s.vm.findClass own = some m.cls) (hC : sn_C cls Ts) (hT : sn_Ty cls fty) (hK : va_K D cls (sn_tys cA) s) (hl : ∀ rr : vw_C, cls[r]? = some rr → Cond.classLink own index rr.1 ∈ Ts ∧ Cond.instantiable rr.1 rr.2.2 ∈ Ts ∧ Cond.initialized rr.1 ∈ Ts) (hw : ∀ g ci w y, shp g = (0, (ci, (w, y))) → ∃ rr : vw_C, cls[ci]? = some rr ∧ rr.2.2 = w) (hR : sn_R R c0 s0 out) (hm : sn_mono k out) (hk : sn_K shp rfT fty D cls cA ad base stc p l e R s m args below meth c Q true c0 s0 nL out k) (hd : decode cc pc = .ok (.new index, 3)) (h : s_new shp r pc k L st x = some out) : sn_W shp rfT fty D cls cA ad base stc p l e R s m args below meth c Q true c0 s0 nL pc L st x := by
  intro H locs cells slots ls S
  unfold s_new at h
  split at h
  · next ci w y hs =>
    cases hq : Nat.beq ci r with
    | false => rw [hq] at h; cases h
    | true =>
      have hq2 : ci = r := Nat.eq_of_beq_eq_true hq
      subst hq2
      rw [hq] at h
      simp only [cond_true] at h
      obtain ⟨rr, hci, hrw⟩ := hw _ _ _ _ hs
      subst hrw
      obtain ⟨l1, l2, l3⟩ := hl rr hci
      obtain ⟨m1, m2⟩ := hm _ _ _ _ h
      have m1' : x.2.2.2.2.1 + 1 ≤ out.1.2.2.2.2.1 := m1
      have m2' : x.2.2.2.2.2 + rr.2.2 ≤ out.1.2.2.2.2.2 := m2
      obtain ⟨k1, k2⟩ := S.2.2.2.2
      obtain ⟨R1, R2⟩ := hR
      have hsz := S.1.2.2.2.1 rfl
      have hnx : x.2.2.1 < 1000 := hst _ _ hs
      have hKn := hK.1 _ _ hci
      obtain ⟨ty, ht1, ht2⟩ := hT _ _ hci
      refine W.newcK hx hb hown (hts _ l1) (hts _ l2) (hts _ l3) rfl hd (by omega) (by omega) hKn.2.1 (h := ad x.2.2.1) (by rw [hX.2.2 _ hnx]; exact hsz) fun H1 kC hkC o1 o2 o3 => ?_
      have hob := u_born ty hts (hC _ _ hci).1 hKn hkC o1 ht1
      refine hk _ _ _ _ h H1 locs _ _ ls (S.make (nn := 1) (w := rr.2.2) hX (by omega) (by rw [o2, hX.2.2 _ hnx]; omega) (fun q hq => o3 q (by rw [hX.2.2 _ hnx]; omega)) (fun j hj => ?_) (fun g g1 g2 n f w hz => ?_) (sn_ok1 ?_ fun v hv => (S.2.2.2.1 v hv).mono shp (Nat.le_add_right _ _)))
      · have : j = 0 := by omega
        subst this
        show sn_at shp rfT fty D cls cA ad true _ H1 x.2.2.1
        unfold sn_at
        rw [hs]
        refine ⟨rr, hci, hob.to fun k' hk' => ?_⟩
        rw [ht2 k' hk']
        unfold sn_fv
        have z1 : (s_make 1 rr.2.2 x).1 x.2.2.1 k' = 0 := z_row_in (Nat.le_refl _) (by omega) k'
        have z2 : (s_make 1 rr.2.2 x).2.1 x.2.2.1 k' = 0 := z_row_in (Nat.le_refl _) (by omega) k'
        have z3 : (s_make 1 rr.2.2 x).2.2.2.1 x.2.2.1 k' = false := z_row_in (Nat.le_refl _) (by omega) k'
        rw [z1, z2, z3]
        split <;> simp_all
      · have : g = x.2.2.1 := by omega
        subst this
        rw [hs] at hz
        cases hz
      · refine ⟨Or.inl ⟨by show x.2.2.1 + 0 < _; omega, hnx⟩, ?_⟩
        show 0 < sn_cnt (shp x.2.2.1)
        rw [hs]
        exact Nat.one_pos
  · cases h
end SWI
