/-! ===== SOUNDNESS: reading and writing cells ===== -/
section MEM
variable {shp : Nat → Nat × (Nat × (Nat × Nat))} {rfT : Nat → Nat → Nat} {fty : Nat → Nat → Nat} {D : va_G} {cls : List vw_C} {cA : Nat → ClassId} {ad : Nat → Nat} {base : Nat} {stc : Nat → Nat → Int32}
/-- what holds of the tables themselves -/
def sn_X (shp : Nat → Nat × (Nat × (Nat × Nat))) (ad : Nat → Nat) (base : Nat) : Prop := (∀ g i, g < 1000 → i < sn_cnt (shp g) → (shp (g + i)).1 = (shp g).1 ∧ (shp (g + i)).2.1 = (shp g).2.1 ∧ (shp (g + i)).2.2.2 = (shp g).2.2.2) ∧ (∀ g n f w, shp g = (5, (n, (f, w))) → f < 1000 ∧ n ≤ sn_cnt (shp f)) ∧ ∀ g, g < 1000 → ad g = base + g
variable {md : Bool} {x x' : ev_M} {H H' : Heap} {g : Nat}
theorem sn_HR.upd (hX : sn_X shp ad base) (h : sn_HR shp rfT fty D cls cA ad base stc md x H) (hg : g < x.2.2.1) (e1 : ∀ q, q ≠ g → ∀ j, x'.1 q j = x.1 q j) (e2 : ∀ q, q ≠ g → ∀ j, x'.2.1 q j = x.2.1 q j) (e3 : x'.2.2 = x.2.2) (hz : H'.size = H.size) (ho : ∀ q : Nat, q ≠ ad g → H'[q]? = H[q]?) (hn : sn_at shp rfT fty D cls cA ad md x' H' g) : sn_HR shp rfT fty D cls cA ad base stc md x' H' := by
  obtain ⟨h1, h2, h3, h4, h5, h6⟩ := h
  refine ⟨fun q hq => ?_, fun q hq j => ?_, by rw [e3]; exact h3, by rw [hz, e3]; exact h4, by rw [e3]; exact h5, by rw [e3]; exact h6⟩
  · rw [e3] at hq
    by_cases e : q = g
    · rw [e]; exact hn
    · refine (h1 q hq).kept _ _ _ _ _ _ _ (ho _ (fun e9 => e ?_)) (e1 q e) (e2 q e) (fun j => by rw [e3])
      have a1 := hX.2.2 q (by omega)
      have a2 := hX.2.2 g (by omega)
      omega
  · rw [e1 q (by omega) j]
    exact h2 q hq j
variable {p : Program} {l : Launch} {e : Env} {R : Room} {s : State} {m : MethodId} {args : Array Value} {below : List Frame} {meth : Method} {c : Code} {Q : State → Prop} {cc : ByteArray} {c0 s0 nL : Nat} {out : ev_O}
variable {pc n r i : Nat} {k : ev_K} {L : ev_L} {st : List ev_V}
def sn_tys (cA : Nat → ClassId) : List (ClassId × FieldType) := [(cA 1, .int), (cA 2, .byte), (cA 3, .boolean), (cA 4, .long), (cA 5, .array .int)]
theorem sn_dyn {nx g i : Nat} (hX : sn_X shp ad base) (h : sn_HR shp rfT fty D cls cA ad base stc md x H) (hv : sn_okv shp x.2.2.1 (vR g i)) (hs : ¬ 1000 ≤ g) : g + i < x.2.2.1 ∧ (∀ t n y w, shp g = (t, (n, (y, w))) → ∃ y9, shp (g + i) = (t, (n, (y9, w)))) ∧ sn_at shp rfT fty D cls cA ad md x H (g + i) := by
  obtain ⟨h1, h2⟩ := hv
  rcases h1 with ⟨h1, h1'⟩ | ⟨h1, -⟩
  · refine ⟨h1, fun t n y w e => ?_, h.1 _ h1⟩
    obtain ⟨e1, e2, e3⟩ := hX.1 g i h1' h2
    rw [e] at e1 e2 e3
    refine ⟨(shp (g + i)).2.2.1, ?_⟩
    exact Prod.ext e1 (Prod.ext e2 (Prod.ext rfl e3))
  · exact absurd h1 hs
theorem inb_vp {j : Int32} {n : Nat} (h : inb j n = true) : ¬ (j < 0 ∨ n ≤ j.toNatClampNeg) := by
  unfold inb at h
  simp only [Bool.and_eq_true, Bool.not_eq_true', decide_eq_false_iff_not, decide_eq_true_eq] at h
  intro z
  rcases z with z | z
  · exact h.1 z
  · omega
theorem inb_ltS {j : Int32} {n : Nat} (h : inb j n = true) : ix j < n := by
  have := inb_vp h
  exact Nat.not_le.mp fun z => this (Or.inr z)
/-- a static table of ints, the script too -/
def sn_st (base : Nat) (ad : Nat → Nat) (stc : Nat → Nat → Int32) (shp : Nat → Nat × (Nat × (Nat × Nat))) (s : State) : Prop := ∀ g, 1000 ≤ g → (∀ n w, shp g = (1, (n, w)) → va_T .int (ad g) n (fun j => .int (stc g j)) (sn_A base) s s.heap) ∧ (∀ w, shp g = (6, w) → va_T .int (ad g) (ix (stc 1021 0)) (fun j => .int (stc g j)) (sn_A base) s s.heap ∧ stc 1021 0 = nI (ix (stc 1021 0))) ∧ (∀ t w, shp g = (t, w) → t = 1 ∨ t = 6 ∨ 7 ≤ t)
theorem w_iald (hx : p.tables.exec = Jvm.exec) (hb : c.code = cc) (hX : sn_X shp ad base) (hK : va_K D cls (sn_tys cA) s) (hst : sn_st base ad stc shp s) (hk : sn_K shp rfT fty D cls cA ad base stc p l e R s m args below meth c Q md c0 s0 nL out k) (hd : decode cc pc = .ok (.iaload, 1)) (h : s_iald shp pc k L st x = some out) : sn_W shp rfT fty D cls cA ad base stc p l e R s m args below meth c Q md c0 s0 nL pc L st x := by
  intro H locs cells slots ls S
  unfold s_iald at h
  split at h
  · next j g i st' =>
    have hok := sn_hd (sn_tl S.2.2.2.1)
    split at h
    · next nn w hs =>
      split at h
      · next hj =>
        have kk := hk _ _ _ _ h H locs cells slots ls (S.stk (sn_ok1 trivial (sn_tl (sn_tl S.2.2.2.1))))
        by_cases hg : 1000 ≤ g
        · have hi : i = 0 := by
            rcases hok.1 with ⟨-, z⟩ | ⟨-, z⟩
            · exact absurd hg (Nat.not_le.mpr z)
            · exact z
          subst hi
          refine va_ti hx hb ((hst g hg).1 nn w hs) S.2.1 (i := j) (inb_vp hj) rfl hd ?_
          rw [← S.1.2.1 g hg]
          exact kk
        · obtain ⟨h1, h2, h3⟩ := sn_dyn (nx := 0) hX S.1 hok hg
          unfold sn_at at h3
          obtain ⟨y9, h2⟩ := h2 _ _ _ _ hs
          rw [h2] at h3
          exact W.iald hx hb h3 ((hK.2 0 _ rfl).1 nn _) (fun z => by cases z) (by rw [arrV_size]; exact inb_vp hj) (arrV_read _ _ (inb_ltS hj)) rfl rfl hd kk
      · cases h
    · next w hs =>
      split at h
      · next hj =>
        have kk := hk _ _ _ _ h H locs cells slots ls (S.stk (sn_ok1 trivial (sn_tl (sn_tl S.2.2.2.1))))
        by_cases hg : 1000 ≤ g
        · have hi : i = 0 := by
            rcases hok.1 with ⟨-, z⟩ | ⟨-, z⟩
            · exact absurd hg (Nat.not_le.mpr z)
            · exact z
          subst hi
          rw [S.1.2.1 1021 (by decide) 0] at hj
          refine va_ti hx hb ((hst g hg).2.1 w hs).1 S.2.1 (i := j) (inb_vp hj) rfl hd ?_
          rw [← S.1.2.1 g hg]
          exact kk
        · obtain ⟨h1, h2, h3⟩ := sn_dyn (nx := 0) hX S.1 hok hg
          unfold sn_at at h3
          obtain ⟨y9, h2⟩ := h2 _ _ _ _ hs
          rw [h2] at h3
          exact h3.elim
      · cases h
    · cases h
  · cases h
theorem w_bald (hx : p.tables.exec = Jvm.exec) (hb : c.code = cc) (hX : sn_X shp ad base) (hK : va_K D cls (sn_tys cA) s) (hst : sn_st base ad stc shp s) (hk : sn_K shp rfT fty D cls cA ad base stc p l e R s m args below meth c Q md c0 s0 nL out k) (hd : decode cc pc = .ok (.baload, 1)) (h : s_bald shp pc k L st x = some out) : sn_W shp rfT fty D cls cA ad base stc p l e R s m args below meth c Q md c0 s0 nL pc L st x := by
  intro H locs cells slots ls S
  unfold s_bald at h
  split at h
  · next j g i st' =>
    have hok := sn_hd (sn_tl S.2.2.2.1)
    split at h
    · next nn w hs =>
      split at h
      · next hj =>
        have kk := hk _ _ _ _ h H locs cells slots ls (S.stk (sn_ok1 trivial (sn_tl (sn_tl S.2.2.2.1))))
        by_cases hg : 1000 ≤ g
        · have := (hst g hg).2.2 _ _ hs; omega
        · obtain ⟨h1, h2, h3⟩ := sn_dyn (nx := 0) hX S.1 hok hg
          unfold sn_at at h3
          obtain ⟨y9, h2⟩ := h2 _ _ _ _ hs
          rw [h2] at h3
          exact W.bald hx hb h3.1 ((hK.2 1 _ rfl).1 nn _) (fun z => by cases z) (by rw [arrV_size]; exact inb_vp hj) (arrV_read _ _ (inb_ltS hj)) rfl rfl hd kk
      · cases h
    · next nn w hs =>
      split at h
      · next hj =>
        have kk := hk _ _ _ _ h H locs cells slots ls (S.stk (sn_ok1 trivial (sn_tl (sn_tl S.2.2.2.1))))
        by_cases hg : 1000 ≤ g
        · have := (hst g hg).2.2 _ _ hs; omega
        · obtain ⟨h1, h2, h3⟩ := sn_dyn (nx := 0) hX S.1 hok hg
          unfold sn_at at h3
          obtain ⟨y9, h2⟩ := h2 _ _ _ _ hs
          rw [h2] at h3
          exact W.zald hx hb h3 ((hK.2 2 _ rfl).1 nn _) (fun z => by cases z) (by rw [arrV_size]; exact inb_vp hj) (arrV_read _ _ (inb_ltS hj)) rfl rfl hd kk
      · cases h
    · cases h
  · cases h
theorem w_lald (hx : p.tables.exec = Jvm.exec) (hb : c.code = cc) (hX : sn_X shp ad base) (hK : va_K D cls (sn_tys cA) s) (hst : sn_st base ad stc shp s) (hk : sn_K shp rfT fty D cls cA ad base stc p l e R s m args below meth c Q md c0 s0 nL out k) (hd : decode cc pc = .ok (.laload, 1)) (h : s_lald shp pc k L st x = some out) : sn_W shp rfT fty D cls cA ad base stc p l e R s m args below meth c Q md c0 s0 nL pc L st x := by
  intro H locs cells slots ls S
  unfold s_lald at h
  split at h
  · next j g i st' =>
    have hok := sn_hd (sn_tl S.2.2.2.1)
    split at h
    · next nn w hs =>
      split at h
      · next hj =>
        have kk := hk _ _ _ _ h H locs cells slots ls (S.stk (sn_ok1 trivial (sn_tl (sn_tl S.2.2.2.1))))
        by_cases hg : 1000 ≤ g
        · have := (hst g hg).2.2 _ _ hs; omega
        · obtain ⟨h1, h2, h3⟩ := sn_dyn (nx := 0) hX S.1 hok hg
          unfold sn_at at h3
          obtain ⟨y9, h2⟩ := h2 _ _ _ _ hs
          rw [h2] at h3
          exact W.lald hx hb h3 ((hK.2 3 _ rfl).1 nn _) (fun z => by cases z) (by rw [arrV_size]; exact inb_vp hj) (arrV_read _ _ (inb_ltS hj)) rfl rfl hd kk
      · cases h
    · cases h
  · cases h
theorem w_aald (hx : p.tables.exec = Jvm.exec) (hb : c.code = cc) (hX : sn_X shp ad base) (hK : va_K D cls (sn_tys cA) s) (hst : sn_st base ad stc shp s) (hk : sn_K shp rfT fty D cls cA ad base stc p l e R s m args below meth c Q md c0 s0 nL out k) (hd : decode cc pc = .ok (.aaload, 1)) (h : s_aald shp pc k L st x = some out) : sn_W shp rfT fty D cls cA ad base stc p l e R s m args below meth c Q md c0 s0 nL pc L st x := by
  intro H locs cells slots ls S
  unfold s_aald at h
  split at h
  · next j g i st' =>
    have hok := sn_hd (sn_tl S.2.2.2.1)
    split at h
    · next nn f w hs =>
      split at h
      · next hj =>
        by_cases hg : 1000 ≤ g
        · have := (hst g hg).2.2 _ _ hs; omega
        · obtain ⟨h1, h2, h3⟩ := sn_dyn (nx := 0) hX S.1 hok hg
          have hi : i = 0 := by
            have := hok.2
            rw [hs] at this
            exact Nat.lt_one_iff.mp this
          subst hi
          rw [Nat.add_zero] at h3
          unfold sn_at at h3
          rw [hs] at h3
          obtain ⟨f1, f2⟩ := hX.2.1 _ _ _ _ hs
          have f3 := S.1.2.2.2.2.1 g h1 _ _ _ hs
          have f4 := inb_ltS hj
          have kk := hk _ _ _ _ h H locs cells slots ls (S.stk (sn_ok1 (v := vR f (ix j)) ⟨Or.inl ⟨by show f + ix j < _; omega, f1⟩, by show ix j < sn_cnt (shp f); omega⟩ (sn_tl (sn_tl S.2.2.2.1))))
          exact W.aald hx hb h3 ((hK.2 4 _ rfl).1 nn _) rfl (fun z => by cases z) (by rw [arrV_size]; exact inb_vp hj) (arrV_read _ _ f4) rfl rfl hd kk
      · cases h
    · cases h
  · cases h
theorem u2_ne {α : Type} (f : Nat → Nat → α) {a c : Nat} (h : a ≠ c) (k : Nat) (z : α) (b : Nat) : u2 f c k z a b = f a b := by simp [u2, h]
theorem u2_eq {α : Type} (f : Nat → Nat → α) (c k : Nat) (z : α) (b : Nat) : u2 f c k z c b = if b = k then z else f c b := by simp [u2]
theorem sn_cellI (cI : ClassId) (n : Nat) (x : ev_M) (g k : Nat) (z : Int32) : (arrV cI n (fun j => .int (x.1 g j))).setSlot k (.int z) = arrV cI n (fun j => .int ((wI x g k z).1 g j)) := by
  rw [arrV_store]
  refine congrArg (arrV cI n) (funext fun j => ?_)
  show updV _ k _ j = Value.int (u2 x.1 g k z g j)
  rw [u2_eq]
  unfold updV
  split <;> rfl
theorem sn_cellL (cI : ClassId) (n : Nat) (x : ev_M) (g k : Nat) (z : Int64) : (arrV cI n (fun j => .long (x.2.1 g j))).setSlot k (.long z) = arrV cI n (fun j => .long ((wL x g k z).2.1 g j)) := by
  rw [arrV_store]
  refine congrArg (arrV cI n) (funext fun j => ?_)
  show updV _ k _ j = Value.long (u2 x.2.1 g k z g j)
  rw [u2_eq]
  unfold updV
  split <;> rfl
theorem sn_S.put (hX : sn_X shp ad base) {locs : List Loc} {cells slots : Nat} {ls : Array Slot} {st' : List ev_V} {q : Nat} (S : sn_S shp rfT fty D cls cA ad base stc md s c0 s0 nL x H locs cells slots ls L st) (hg : g < x.2.2.1) (hs : ∀ v ∈ st', sn_okv shp x.2.2.1 v) (e1 : ∀ q, q ≠ g → ∀ j, x'.1 q j = x.1 q j) (e2 : ∀ q, q ≠ g → ∀ j, x'.2.1 q j = x.2.1 q j) (e3 : x'.2.2 = x.2.2) (hz : H'.size = H.size) (ho : ∀ q : Nat, q ≠ ad g → H'[q]? = H[q]?) (hn : sn_at shp rfT fty D cls cA ad md x' H' g) : sn_S shp rfT fty D cls cA ad base stc md s c0 s0 nL x' H' (locs ++ [⟨ad g, q⟩]) cells slots ls L st' := by
  refine ⟨S.1.upd hX hg e1 e2 e3 hz ho hn, S.2.1.put hz ho ?_, by rw [e3]; exact S.2.2.1, by rw [e3]; exact hs, by rw [e3]; exact S.2.2.2.2.1, by rw [e3]; exact S.2.2.2.2.2⟩
  show base ≤ ad g
  have := S.1.2.2.1
  rw [hX.2.2 g (by omega)]
  omega
theorem w_iast (hx : p.tables.exec = Jvm.exec) (hb : c.code = cc) (hX : sn_X shp ad base) (hK : va_K D cls (sn_tys cA) s) (hst : ∀ g t n y, shp g = (t, (n, (y, 0))) → t < 5 → g < 1000) (hk : sn_K shp rfT fty D cls cA ad base stc p l e R s m args below meth c Q md c0 s0 nL out k) (hd : decode cc pc = .ok (.iastore, 1)) (h : s_iast shp pc k L st x = some out) : sn_W shp rfT fty D cls cA ad base stc p l e R s m args below meth c Q md c0 s0 nL pc L st x := by
  intro H locs cells slots ls S
  unfold s_iast at h
  split at h
  · next z j g i st' =>
    have hok := sn_hd (sn_tl (sn_tl S.2.2.2.1))
    split at h
    · next nn y hs =>
      split at h
      · next hj =>
        have hg : ¬ 1000 ≤ g := Nat.not_le.mpr (hst _ _ _ _ hs (by decide))
        obtain ⟨h1, h2, h3⟩ := sn_dyn (nx := 0) hX S.1 hok hg
        unfold sn_at at h3
        obtain ⟨y9, h2⟩ := h2 _ _ _ _ hs
        rw [h2] at h3
        refine W.iast hx hb h3 ((hK.2 0 _ rfl).1 nn _) (fun z => by cases z) (by rw [arrV_size]; exact inb_vp hj) rfl rfl hd fun H1 o1 o2 o3 => hk _ _ _ _ h H1 _ cells slots ls (S.put hX h1 (sn_tl (sn_tl (sn_tl S.2.2.2.1))) (fun q hq b => u2_ne _ hq _ _ _) (fun _ _ _ => rfl) rfl o2 o3 ?_)
        unfold sn_at
        rw [h2]
        rw [sn_cellI] at o1
        exact o1
      · cases h
    · cases h
  · cases h
theorem fits_b8 (z : Int32) : fits .byte (.int z.toInt8.toInt32) = true := by
  have h1 := Int8.le_toInt z.toInt8
  have h2 := Int8.toInt_lt z.toInt8
  show (decide (-128 ≤ z.toInt8.toInt32) && decide (z.toInt8.toInt32 ≤ 127)) = true
  rw [Bool.and_eq_true, decide_eq_true_eq, decide_eq_true_eq, Int32.le_iff_toInt_le, Int32.le_iff_toInt_le, Int8.toInt_toInt32]
  rw [show (-128 : Int32).toInt = -128 from rfl, show (127 : Int32).toInt = 127 from rfl]
  omega
theorem sn_narB (z : Int32) : narrow .byte (.int z) = .int z.toInt8.toInt32 := rfl
theorem sn_narZ (z : Int32) : narrow .boolean (.int z) = .int (z &&& 1) := rfl
theorem w_bast (hx : p.tables.exec = Jvm.exec) (hb : c.code = cc) (hX : sn_X shp ad base) (hK : va_K D cls (sn_tys cA) s) (hst : ∀ g t n y, shp g = (t, (n, (y, 0))) → t < 5 → g < 1000) (hk : sn_K shp rfT fty D cls cA ad base stc p l e R s m args below meth c Q md c0 s0 nL out k) (hd : decode cc pc = .ok (.bastore, 1)) (h : s_bast shp pc k L st x = some out) : sn_W shp rfT fty D cls cA ad base stc p l e R s m args below meth c Q md c0 s0 nL pc L st x := by
  intro H locs cells slots ls S
  unfold s_bast at h
  split at h
  · next z j g i st' =>
    have hok := sn_hd (sn_tl (sn_tl S.2.2.2.1))
    split at h
    · next nn y hs =>
      split at h
      · next hj =>
        have hg : ¬ 1000 ≤ g := Nat.not_le.mpr (hst _ _ _ _ hs (by decide))
        obtain ⟨h1, h2, h3⟩ := sn_dyn (nx := 0) hX S.1 hok hg
        unfold sn_at at h3
        obtain ⟨y9, h2⟩ := h2 _ _ _ _ hs
        rw [h2] at h3
        refine W.bast hx hb h3.1 ((hK.2 1 _ rfl).1 nn _) (fun z => by cases z) (by rw [arrV_size]; exact inb_vp hj) rfl rfl hd fun H1 o1 o2 o3 => hk _ _ _ _ h H1 _ cells slots ls (S.put hX h1 (sn_tl (sn_tl (sn_tl S.2.2.2.1))) (fun q hq b => u2_ne _ hq _ _ _) (fun _ _ _ => rfl) rfl o2 o3 ?_)
        unfold sn_at
        rw [h2]
        rw [sn_narB, sn_cellI] at o1
        refine ⟨o1, fun q => ?_⟩
        show fits .byte (.int (u2 _ _ _ _ _ q)) = true
        rw [u2_eq]
        split
        · exact fits_b8 _
        · exact h3.2 q
      · cases h
    · next nn y hs =>
      split at h
      · next hj =>
        have hg : ¬ 1000 ≤ g := Nat.not_le.mpr (hst _ _ _ _ hs (by decide))
        obtain ⟨h1, h2, h3⟩ := sn_dyn (nx := 0) hX S.1 hok hg
        unfold sn_at at h3
        obtain ⟨y9, h2⟩ := h2 _ _ _ _ hs
        rw [h2] at h3
        refine W.zast hx hb h3 ((hK.2 2 _ rfl).1 nn _) (fun z => by cases z) (by rw [arrV_size]; exact inb_vp hj) rfl rfl hd fun H1 o1 o2 o3 => hk _ _ _ _ h H1 _ cells slots ls (S.put hX h1 (sn_tl (sn_tl (sn_tl S.2.2.2.1))) (fun q hq b => u2_ne _ hq _ _ _) (fun _ _ _ => rfl) rfl o2 o3 ?_)
        unfold sn_at
        rw [h2]
        rw [sn_narZ, sn_cellI] at o1
        exact o1
      · cases h
    · cases h
  · cases h
theorem w_last (hx : p.tables.exec = Jvm.exec) (hb : c.code = cc) (hX : sn_X shp ad base) (hK : va_K D cls (sn_tys cA) s) (hst : ∀ g t n y, shp g = (t, (n, (y, 0))) → t < 5 → g < 1000) (hk : sn_K shp rfT fty D cls cA ad base stc p l e R s m args below meth c Q md c0 s0 nL out k) (hd : decode cc pc = .ok (.lastore, 1)) (h : s_last shp pc k L st x = some out) : sn_W shp rfT fty D cls cA ad base stc p l e R s m args below meth c Q md c0 s0 nL pc L st x := by
  intro H locs cells slots ls S
  unfold s_last at h
  split at h
  · next z j g i st' =>
    have hok := sn_hd (sn_tl (sn_tl S.2.2.2.1))
    split at h
    · next nn y hs =>
      split at h
      · next hj =>
        have hg : ¬ 1000 ≤ g := Nat.not_le.mpr (hst _ _ _ _ hs (by decide))
        obtain ⟨h1, h2, h3⟩ := sn_dyn (nx := 0) hX S.1 hok hg
        unfold sn_at at h3
        obtain ⟨y9, h2⟩ := h2 _ _ _ _ hs
        rw [h2] at h3
        refine W.last hx hb h3 ((hK.2 3 _ rfl).1 nn _) (fun z => by cases z) (by rw [arrV_size]; exact inb_vp hj) rfl rfl hd fun H1 o1 o2 o3 => hk _ _ _ _ h H1 _ cells slots ls (S.put hX h1 (sn_tl (sn_tl (sn_tl S.2.2.2.1))) (fun _ _ _ => rfl) (fun q hq b => u2_ne _ hq _ _ _) rfl o2 o3 ?_)
        unfold sn_at
        rw [h2]
        rw [sn_cellL] at o1
        exact o1
      · cases h
    · cases h
  · cases h
end MEM
