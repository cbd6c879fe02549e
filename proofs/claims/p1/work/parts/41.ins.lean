/-! ===== SOUNDNESS: a row an instruction ===== -/
section INS
variable (shp : Nat → Nat × (Nat × (Nat × Nat))) (rfT : Nat → Nat → Nat) (fty : Nat → Nat → Nat) (D : va_G) (cls : List vw_C) (cA : Nat → ClassId) (ad : Nat → Nat) (base : Nat) (stc : Nat → Nat → Int32)
/-- where the walk of a frame stands -/
def sn_S (md : Bool) (s : State) (c0 s0 nL : Nat) (x : ev_M) (H : Heap) (locs : List Loc) (cells slots : Nat) (ls : Array Slot) (L : ev_L) (st : List ev_V) : Prop :=
  sn_HR shp rfT fty D cls cA ad base stc md x H ∧ va_S (sn_A base) s.heap H locs ∧ sn_L shp ad x.2.2.1 ls nL L ∧ (∀ v ∈ st, sn_okv shp x.2.2.1 v) ∧ cells + c0 = x.2.2.2.2.1 ∧ slots + s0 = x.2.2.2.2.2
variable {p : Program} {l : Launch} {e : Env} {R : Room} {s : State} {m : MethodId} {args : Array Value} {below : List Frame} {meth : Method} {c : Code} {Q : State → Prop} {cc : ByteArray} {md : Bool} {c0 s0 nL : Nat} {out : ev_O}
def sn_K (p : Program) (l : Launch) (e : Env) (R : Room) (s : State) (m : MethodId) (args : Array Value) (below : List Frame) (meth : Method) (c : Code) (Q : State → Prop) (md : Bool) (c0 s0 nL : Nat) (out : ev_O) (k : ev_K) : Prop :=
  ∀ (pc : Nat) (L : ev_L) (st : List ev_V) (x : ev_M), k pc L st x = some out → ∀ (H : Heap) (locs : List Loc) (cells slots : Nat) (ls : Array Slot), sn_S shp rfT fty D cls cA ad base stc md s c0 s0 nL x H locs cells slots ls L st → W p l e R s m args below meth c H locs cells slots Q (F0 m pc ls (st.map (sn_v ad)))
abbrev sn_W (p : Program) (l : Launch) (e : Env) (R : Room) (s : State) (m : MethodId) (args : Array Value) (below : List Frame) (meth : Method) (c : Code) (Q : State → Prop) (md : Bool) (c0 s0 nL : Nat) (pc : Nat) (L : ev_L) (st : List ev_V) (x : ev_M) : Prop :=
  ∀ (H : Heap) (locs : List Loc) (cells slots : Nat) (ls : Array Slot), sn_S shp rfT fty D cls cA ad base stc md s c0 s0 nL x H locs cells slots ls L st → W p l e R s m args below meth c H locs cells slots Q (F0 m pc ls (st.map (sn_v ad)))
variable {shp rfT fty D cls cA ad base stc}
variable {pc n r i : Nat} {k : ev_K} {L : ev_L} {st : List ev_V} {x : ev_M}
theorem sn_S.stk {H : Heap} {locs : List Loc} {cells slots : Nat} {ls : Array Slot} {st' : List ev_V} (h : sn_S shp rfT fty D cls cA ad base stc md s c0 s0 nL x H locs cells slots ls L st) (hs : ∀ v ∈ st', sn_okv shp x.2.2.1 v) : sn_S shp rfT fty D cls cA ad base stc md s c0 s0 nL x H locs cells slots ls L st' := ⟨h.1, h.2.1, h.2.2.1, hs, h.2.2.2.2⟩
theorem sn_S.loc {H : Heap} {locs : List Loc} {cells slots : Nat} {ls ls' : Array Slot} {L' : ev_L} (h : sn_S shp rfT fty D cls cA ad base stc md s c0 s0 nL x H locs cells slots ls L st) (hs : sn_L shp ad x.2.2.1 ls' nL L') : sn_S shp rfT fty D cls cA ad base stc md s c0 s0 nL x H locs cells slots ls' L' st := ⟨h.1, h.2.1, hs, h.2.2.2⟩
theorem sn_ok1 {nx : Nat} {v : ev_V} {st : List ev_V} (hv : sn_okv shp nx v) (h : ∀ v ∈ st, sn_okv shp nx v) : ∀ w ∈ v :: st, sn_okv shp nx w := fun w hw => (List.mem_cons.mp hw).elim (fun e => e ▸ hv) (h w)
theorem sn_tl {nx : Nat} {v : ev_V} {st : List ev_V} (h : ∀ w ∈ v :: st, sn_okv shp nx w) : ∀ w ∈ st, sn_okv shp nx w := fun w hw => h w (List.mem_cons_of_mem _ hw)
theorem sn_hd {nx : Nat} {v : ev_V} {st : List ev_V} (h : ∀ w ∈ v :: st, sn_okv shp nx w) : sn_okv shp nx v := h v List.mem_cons_self
section A
variable (hx : p.tables.exec = Jvm.exec) (hb : c.code = cc) (hk : sn_K shp rfT fty D cls cA ad base stc p l e R s m args below meth c Q md c0 s0 nL out k)
theorem w_ild (hx : p.tables.exec = Jvm.exec) (hb : c.code = cc) (hk : sn_K shp rfT fty D cls cA ad base stc p l e R s m args below meth c Q md c0 s0 nL out k) (hd : (∃ j : Fin 4, decode cc pc = .ok (.iload_n j, n) ∧ n = 1 ∧ j.val = i) ∨ (decode cc pc = .ok (.iload i, n) ∧ n = 2)) (h : s_ild i pc n k L st x = some out) : sn_W shp rfT fty D cls cA ad base stc p l e R s m args below meth c Q md c0 s0 nL pc L st x := by
  intro H locs cells slots ls S
  unfold s_ild at h
  split at h
  · next v hv =>
    have h1 := (S.2.2.1.2.2 _ _ hv).2
    have kk := hk _ _ _ _ h H locs cells slots ls (S.stk (sn_ok1 trivial S.2.2.2.1))
    rcases hd with ⟨j, hd, rfl, hj⟩ | ⟨hd, rfl⟩
    · exact lv_iload_n hx hb hd hj h1 kk
    · exact lv_iload hx hb hd h1 kk
  · cases h
theorem w_lld (hx : p.tables.exec = Jvm.exec) (hb : c.code = cc) (hk : sn_K shp rfT fty D cls cA ad base stc p l e R s m args below meth c Q md c0 s0 nL out k) (hd : (∃ j : Fin 4, decode cc pc = .ok (.lload_n j, n) ∧ n = 1 ∧ j.val = i) ∨ (decode cc pc = .ok (.lload i, n) ∧ n = 2)) (h : s_lld i pc n k L st x = some out) : sn_W shp rfT fty D cls cA ad base stc p l e R s m args below meth c Q md c0 s0 nL pc L st x := by
  intro H locs cells slots ls S
  unfold s_lld at h
  split at h
  · next v hv =>
    have h1 := (S.2.2.1.2.2 _ _ hv).2
    have kk := hk _ _ _ _ h H locs cells slots ls (S.stk (sn_ok1 trivial S.2.2.2.1))
    rcases hd with ⟨j, hd, rfl, hj⟩ | ⟨hd, rfl⟩
    · exact lv_lload_n hx hb hd hj h1 kk
    · exact lv_lload hx hb hd h1 kk
  · cases h
theorem w_rld (hx : p.tables.exec = Jvm.exec) (hb : c.code = cc) (hk : sn_K shp rfT fty D cls cA ad base stc p l e R s m args below meth c Q md c0 s0 nL out k) (hd : (∃ j : Fin 4, decode cc pc = .ok (.aload_n j, n) ∧ n = 1 ∧ j.val = i) ∨ (decode cc pc = .ok (.aload i, n) ∧ n = 2)) (h : s_rld i pc n k L st x = some out) : sn_W shp rfT fty D cls cA ad base stc p l e R s m args below meth c Q md c0 s0 nL pc L st x := by
  intro H locs cells slots ls S
  unfold s_rld at h
  split at h
  · next v hv =>
    obtain ⟨h0, h1⟩ := S.2.2.1.2.2 _ _ hv
    have kk := hk _ _ _ _ h H locs cells slots ls (S.stk (sn_ok1 h0 S.2.2.2.1))
    rcases hd with ⟨j, hd, rfl, hj⟩ | ⟨hd, rfl⟩
    · exact lv_aload_n hx hb hd hj h1 kk
    · exact lv_aload hx hb hd h1 kk
  · cases h
theorem w_ist (hx : p.tables.exec = Jvm.exec) (hb : c.code = cc) (hk : sn_K shp rfT fty D cls cA ad base stc p l e R s m args below meth c Q md c0 s0 nL out k) (hi : i < nL) (hd : (∃ j : Fin 4, decode cc pc = .ok (.istore_n j, n) ∧ n = 1 ∧ j.val = i) ∨ (decode cc pc = .ok (.istore i, n) ∧ n = 2)) (h : s_ist i pc n k L st x = some out) : sn_W shp rfT fty D cls cA ad base stc p l e R s m args below meth c Q md c0 s0 nL pc L st x := by
  intro H locs cells slots ls S
  unfold s_ist at h
  split at h
  · next y st' =>
    have kk : ∀ ls' : Array Slot, lv_has ls' nL _ → _ := fun ls' h9 => hk _ _ _ _ h H locs cells slots ls' ((S.stk (sn_tl S.2.2.2.1)).loc (S.2.2.1.st1 shp ad (v := vI y) trivial h9))
    rcases hd with ⟨j, hd, rfl, hj⟩ | ⟨hd, rfl⟩
    · exact lv_istore_n hx hb hd hj (S.2.2.1.has shp ad) hi rfl kk
    · exact lv_istore hx hb hd (S.2.2.1.has shp ad) hi rfl kk
  · cases h
theorem w_rst (hx : p.tables.exec = Jvm.exec) (hb : c.code = cc) (hk : sn_K shp rfT fty D cls cA ad base stc p l e R s m args below meth c Q md c0 s0 nL out k) (hi : i < nL) (hd : (∃ j : Fin 4, decode cc pc = .ok (.astore_n j, n) ∧ n = 1 ∧ j.val = i) ∨ (decode cc pc = .ok (.astore i, n) ∧ n = 2)) (h : s_rst i pc n k L st x = some out) : sn_W shp rfT fty D cls cA ad base stc p l e R s m args below meth c Q md c0 s0 nL pc L st x := by
  intro H locs cells slots ls S
  unfold s_rst at h
  split at h
  · next y st' =>
    have kk : ∀ ls' : Array Slot, lv_has ls' nL _ → _ := fun ls' h9 => hk _ _ _ _ h H locs cells slots ls' ((S.stk (sn_tl S.2.2.2.1)).loc (S.2.2.1.st1 shp ad (v := .inr (.inr y)) (sn_hd S.2.2.2.1) h9))
    rcases hd with ⟨j, hd, rfl, hj⟩ | ⟨hd, rfl⟩
    · exact lv_astore_n hx hb hd hj (S.2.2.1.has shp ad) hi rfl kk
    · exact lv_astore hx hb hd (S.2.2.1.has shp ad) hi rfl kk
  · cases h
theorem w_lst (hx : p.tables.exec = Jvm.exec) (hb : c.code = cc) (hk : sn_K shp rfT fty D cls cA ad base stc p l e R s m args below meth c Q md c0 s0 nL out k) (hi : i + 1 < nL) (hd : (∃ j : Fin 4, decode cc pc = .ok (.lstore_n j, n) ∧ n = 1 ∧ j.val = i) ∨ (decode cc pc = .ok (.lstore i, n) ∧ n = 2)) (h : s_lst i pc n k L st x = some out) : sn_W shp rfT fty D cls cA ad base stc p l e R s m args below meth c Q md c0 s0 nL pc L st x := by
  intro H locs cells slots ls S
  unfold s_lst at h
  split at h
  · next y st' =>
    have kk : ∀ ls' : Array Slot, lv_has ls' nL _ → _ := fun ls' h9 => hk _ _ _ _ h H locs cells slots ls' ((S.stk (sn_tl S.2.2.2.1)).loc (S.2.2.1.st2 shp ad h9))
    rcases hd with ⟨j, hd, rfl, hj⟩ | ⟨hd, rfl⟩
    · exact lv_lstore_n hx hb hd hj (S.2.2.1.has shp ad) hi rfl kk
    · exact lv_lstore hx hb hd (S.2.2.1.has shp ad) hi rfl kk
  · cases h
theorem w_inc {q : Int} (hx : p.tables.exec = Jvm.exec) (hb : c.code = cc) (hk : sn_K shp rfT fty D cls cA ad base stc p l e R s m args below meth c Q md c0 s0 nL out k) (hi : i < nL) (hd : decode cc pc = .ok (.iinc i q, n) ∧ n = 3) (h : s_inc i q pc n k L st x = some out) : sn_W shp rfT fty D cls cA ad base stc p l e R s m args below meth c Q md c0 s0 nL pc L st x := by
  intro H locs cells slots ls S
  unfold s_inc at h
  split at h
  · next y hv =>
    obtain ⟨hd, rfl⟩ := hd
    have hm : ((i, Value.int y) : Nat × Value) ∈ sn_asc ad 0 L := (sn_asc_mem ad L 0 _).mpr ⟨i, vI y, hv, by rw [Nat.zero_add]; rfl⟩
    obtain ⟨q0, hq⟩ := List.getElem?_of_mem hm
    exact lv_iinc (v := y + cI q) hx hb hd (S.2.2.1.has shp ad) hq rfl hi rfl (fun ls' h9 => hk _ _ _ _ h H locs cells slots ls' (S.loc (S.2.2.1.st1 shp ad (v := vI (y + cI q)) trivial h9)))
  · cases h
theorem w_push {v : ev_V} (hk : sn_K shp rfT fty D cls cA ad base stc p l e R s m args below meth c Q md c0 s0 nL out k) (hrow : ∀ (H : Heap) (locs : List Loc) (cells slots : Nat) (ls : Array Slot) (rest : List Value), W p l e R s m args below meth c H locs cells slots Q (F0 m (pc + n) ls (sn_v ad v :: rest)) → W p l e R s m args below meth c H locs cells slots Q (F0 m pc ls rest)) (hv : sn_okv shp x.2.2.1 v) (h : s_push v pc n k L st x = some out) : sn_W shp rfT fty D cls cA ad base stc p l e R s m args below meth c Q md c0 s0 nL pc L st x := by
  intro H locs cells slots ls S
  exact hrow H locs cells slots ls _ (hk _ _ _ _ h H locs cells slots ls (S.stk (sn_ok1 hv S.2.2.2.1)))
theorem w_bin {f : Int32 → Int32 → Int32} (hk : sn_K shp rfT fty D cls cA ad base stc p l e R s m args below meth c Q md c0 s0 nL out k) (hrow : ∀ (H : Heap) (locs : List Loc) (cells slots : Nat) (ls : Array Slot) (rest : List Value) (a b : Int32), W p l e R s m args below meth c H locs cells slots Q (F0 m (pc + 1) ls (.int (f a b) :: rest)) → W p l e R s m args below meth c H locs cells slots Q (F0 m pc ls (.int b :: .int a :: rest))) (h : s_bin f pc k L st x = some out) : sn_W shp rfT fty D cls cA ad base stc p l e R s m args below meth c Q md c0 s0 nL pc L st x := by
  intro H locs cells slots ls S
  unfold s_bin at h
  split at h
  · exact hrow H locs cells slots ls _ _ _ (hk _ _ _ _ h H locs cells slots ls (S.stk (sn_ok1 trivial (sn_tl (sn_tl S.2.2.2.1)))))
  · cases h
theorem w_div {f : Int32 → Int32 → Int32} (hk : sn_K shp rfT fty D cls cA ad base stc p l e R s m args below meth c Q md c0 s0 nL out k) (hrow : ∀ (H : Heap) (locs : List Loc) (cells slots : Nat) (ls : Array Slot) (rest : List Value) (a b : Int32), ¬ b = 0 → W p l e R s m args below meth c H locs cells slots Q (F0 m (pc + 1) ls (.int (f a b) :: rest)) → W p l e R s m args below meth c H locs cells slots Q (F0 m pc ls (.int b :: .int a :: rest))) (h : s_div f pc k L st x = some out) : sn_W shp rfT fty D cls cA ad base stc p l e R s m args below meth c Q md c0 s0 nL pc L st x := by
  intro H locs cells slots ls S
  unfold s_div at h
  split at h
  · split at h
    · cases h
    · next hne => exact hrow H locs cells slots ls _ _ _ hne (hk _ _ _ _ h H locs cells slots ls (S.stk (sn_ok1 trivial (sn_tl (sn_tl S.2.2.2.1)))))
  · cases h
theorem w_un {f : Int32 → Int32} (hk : sn_K shp rfT fty D cls cA ad base stc p l e R s m args below meth c Q md c0 s0 nL out k) (hrow : ∀ (H : Heap) (locs : List Loc) (cells slots : Nat) (ls : Array Slot) (rest : List Value) (a : Int32), W p l e R s m args below meth c H locs cells slots Q (F0 m (pc + 1) ls (.int (f a) :: rest)) → W p l e R s m args below meth c H locs cells slots Q (F0 m pc ls (.int a :: rest))) (h : s_un f pc k L st x = some out) : sn_W shp rfT fty D cls cA ad base stc p l e R s m args below meth c Q md c0 s0 nL pc L st x := by
  intro H locs cells slots ls S
  unfold s_un at h
  split at h
  · exact hrow H locs cells slots ls _ _ (hk _ _ _ _ h H locs cells slots ls (S.stk (sn_ok1 trivial (sn_tl S.2.2.2.1))))
  · cases h
theorem w_lbin {f : Int64 → Int64 → Int64} (hk : sn_K shp rfT fty D cls cA ad base stc p l e R s m args below meth c Q md c0 s0 nL out k) (hrow : ∀ (H : Heap) (locs : List Loc) (cells slots : Nat) (ls : Array Slot) (rest : List Value) (a b : Int64), W p l e R s m args below meth c H locs cells slots Q (F0 m (pc + 1) ls (.long (f a b) :: rest)) → W p l e R s m args below meth c H locs cells slots Q (F0 m pc ls (.long b :: .long a :: rest))) (h : s_lbin f pc k L st x = some out) : sn_W shp rfT fty D cls cA ad base stc p l e R s m args below meth c Q md c0 s0 nL pc L st x := by
  intro H locs cells slots ls S
  unfold s_lbin at h
  split at h
  · exact hrow H locs cells slots ls _ _ _ (hk _ _ _ _ h H locs cells slots ls (S.stk (sn_ok1 trivial (sn_tl (sn_tl S.2.2.2.1)))))
  · cases h
theorem w_ldiv {f : Int64 → Int64 → Int64} (hk : sn_K shp rfT fty D cls cA ad base stc p l e R s m args below meth c Q md c0 s0 nL out k) (hrow : ∀ (H : Heap) (locs : List Loc) (cells slots : Nat) (ls : Array Slot) (rest : List Value) (a b : Int64), ¬ b = 0 → W p l e R s m args below meth c H locs cells slots Q (F0 m (pc + 1) ls (.long (f a b) :: rest)) → W p l e R s m args below meth c H locs cells slots Q (F0 m pc ls (.long b :: .long a :: rest))) (h : s_ldiv f pc k L st x = some out) : sn_W shp rfT fty D cls cA ad base stc p l e R s m args below meth c Q md c0 s0 nL pc L st x := by
  intro H locs cells slots ls S
  unfold s_ldiv at h
  split at h
  · split at h
    · cases h
    · next hne => exact hrow H locs cells slots ls _ _ _ hne (hk _ _ _ _ h H locs cells slots ls (S.stk (sn_ok1 trivial (sn_tl (sn_tl S.2.2.2.1)))))
  · cases h
theorem w_lcmp (hx : p.tables.exec = Jvm.exec) (hb : c.code = cc) (hk : sn_K shp rfT fty D cls cA ad base stc p l e R s m args below meth c Q md c0 s0 nL out k) (hd : decode cc pc = .ok (.lcmp, 1)) (h : s_lcmp pc k L st x = some out) : sn_W shp rfT fty D cls cA ad base stc p l e R s m args below meth c Q md c0 s0 nL pc L st x := by
  intro H locs cells slots ls S
  unfold s_lcmp at h
  split at h
  · exact W.lcmp hx hb hd (hk _ _ _ _ h H locs cells slots ls (S.stk (sn_ok1 trivial (sn_tl (sn_tl S.2.2.2.1)))))
  · cases h
theorem w_i2l (hx : p.tables.exec = Jvm.exec) (hb : c.code = cc) (hk : sn_K shp rfT fty D cls cA ad base stc p l e R s m args below meth c Q md c0 s0 nL out k) (hd : decode cc pc = .ok (.i2l, 1)) (h : s_i2l pc k L st x = some out) : sn_W shp rfT fty D cls cA ad base stc p l e R s m args below meth c Q md c0 s0 nL pc L st x := by
  intro H locs cells slots ls S
  unfold s_i2l at h
  split at h
  · exact lv_i2l hx hb hd rfl (hk _ _ _ _ h H locs cells slots ls (S.stk (sn_ok1 trivial (sn_tl S.2.2.2.1))))
  · cases h
theorem w_l2i (hx : p.tables.exec = Jvm.exec) (hb : c.code = cc) (hk : sn_K shp rfT fty D cls cA ad base stc p l e R s m args below meth c Q md c0 s0 nL out k) (hd : decode cc pc = .ok (.l2i, 1)) (h : s_l2i pc k L st x = some out) : sn_W shp rfT fty D cls cA ad base stc p l e R s m args below meth c Q md c0 s0 nL pc L st x := by
  intro H locs cells slots ls S
  unfold s_l2i at h
  split at h
  · exact lv_l2i hx hb hd rfl (hk _ _ _ _ h H locs cells slots ls (S.stk (sn_ok1 trivial (sn_tl S.2.2.2.1))))
  · cases h
theorem sn_cat1 {v : ev_V} (h : ∀ x, v ≠ .inr (.inl x)) : (sn_v ad v).category = 1 := by
  match v, h with
  | .inl _, _ => rfl
  | .inr (.inl x), h => exact absurd rfl (h x)
  | .inr (.inr _), _ => rfl
theorem sn_cat (v : ev_V) : (sn_v ad v).category = ev_cat v := by
  match v with
  | .inl _ => rfl
  | .inr (.inl x) => rfl
  | .inr (.inr _) => rfl
theorem ev_cat_pos (v : ev_V) : 1 ≤ ev_cat v := by
  match v with
  | .inl _ => exact Nat.le_refl _
  | .inr (.inl x) => exact Nat.le_succ _
  | .inr (.inr _) => exact Nat.le_refl _
theorem sn_cats : ∀ st : List ev_V, ((st.map (sn_v ad)).map fun v => v.category).sum = ev_cats st
  | [] => rfl
  | v :: r => by
    show (sn_v ad v).category + _ = ev_cat v + ev_cats r
    rw [sn_cat v, ← sn_cats r]
    rfl
theorem w_dup (hx : p.tables.exec = Jvm.exec) (hb : c.code = cc) (hk : sn_K shp rfT fty D cls cA ad base stc p l e R s m args below meth c Q md c0 s0 nL out k) (hd : decode cc pc = .ok (.dup, 1)) (h : s_dup pc k L st x = some out) : sn_W shp rfT fty D cls cA ad base stc p l e R s m args below meth c Q md c0 s0 nL pc L st x := by
  intro H locs cells slots ls S
  unfold s_dup at h
  split at h
  · cases h
  · next hne => exact lv_dup hx hb hd (sn_cat1 (by simpa using hne)) (hk _ _ _ _ h H locs cells slots ls (S.stk (sn_ok1 (sn_hd S.2.2.2.1) S.2.2.2.1)))
  · cases h
theorem w_pop (hx : p.tables.exec = Jvm.exec) (hb : c.code = cc) (hk : sn_K shp rfT fty D cls cA ad base stc p l e R s m args below meth c Q md c0 s0 nL out k) (hd : decode cc pc = .ok (.pop, 1)) (h : s_pop pc k L st x = some out) : sn_W shp rfT fty D cls cA ad base stc p l e R s m args below meth c Q md c0 s0 nL pc L st x := by
  intro H locs cells slots ls S
  unfold s_pop at h
  split at h
  · cases h
  · next hne => exact lv_pop hx hb hd (sn_cat1 (by simpa using hne)) (hk _ _ _ _ h H locs cells slots ls (S.stk (sn_tl S.2.2.2.1)))
  · cases h
theorem w_dupx1 (hx : p.tables.exec = Jvm.exec) (hb : c.code = cc) (hk : sn_K shp rfT fty D cls cA ad base stc p l e R s m args below meth c Q md c0 s0 nL out k) (hd : decode cc pc = .ok (.dup_x1, 1)) (h : s_dupx1 pc k L st x = some out) : sn_W shp rfT fty D cls cA ad base stc p l e R s m args below meth c Q md c0 s0 nL pc L st x := by
  intro H locs cells slots ls S
  unfold s_dupx1 at h
  split at h
  · next a b st' =>
    cases hq : Nat.beq (ev_cats [a, b]) 2 with
    | false => rw [hq] at h; cases h
    | true =>
      rw [hq] at h
      have h2 : ev_cat a + (ev_cat b + 0) = 2 := Nat.eq_of_beq_eq_true hq
      have pa := ev_cat_pos a
      have pb := ev_cat_pos b
      have ha := sn_hd S.2.2.2.1
      have hb' := sn_hd (sn_tl S.2.2.2.1)
      exact lv_dup_x1 hx hb hd (by rw [sn_cat]; omega) (by rw [sn_cat]; omega) (hk _ _ _ _ h H locs cells slots ls (S.stk (sn_ok1 ha (sn_ok1 hb' (sn_ok1 ha (sn_tl (sn_tl S.2.2.2.1)))))))
  · cases h
theorem w_dupx2 (hx : p.tables.exec = Jvm.exec) (hb : c.code = cc) (hk : sn_K shp rfT fty D cls cA ad base stc p l e R s m args below meth c Q md c0 s0 nL out k) (hd : decode cc pc = .ok (.dup_x2, 1)) (h : s_dupx2 pc k L st x = some out) : sn_W shp rfT fty D cls cA ad base stc p l e R s m args below meth c Q md c0 s0 nL pc L st x := by
  intro H locs cells slots ls S
  unfold s_dupx2 at h
  split at h
  · next a b d st' =>
    cases hq : Nat.beq (ev_cats [a, b, d]) 3 with
    | false => rw [hq] at h; cases h
    | true =>
      rw [hq] at h
      have h2 : ev_cat a + (ev_cat b + (ev_cat d + 0)) = 3 := Nat.eq_of_beq_eq_true hq
      have pa := ev_cat_pos a
      have pb := ev_cat_pos b
      have pd := ev_cat_pos d
      have ha := sn_hd S.2.2.2.1
      have hb' := sn_hd (sn_tl S.2.2.2.1)
      have hd' := sn_hd (sn_tl (sn_tl S.2.2.2.1))
      exact lv_dup_x2 hx hb hd (by rw [sn_cat]; omega) (by rw [sn_cat]; omega) (by rw [sn_cat]; omega) (hk _ _ _ _ h H locs cells slots ls (S.stk (sn_ok1 ha (sn_ok1 hb' (sn_ok1 hd' (sn_ok1 ha (sn_tl (sn_tl (sn_tl S.2.2.2.1)))))))))
  · cases h
theorem w_dup2 (hx : p.tables.exec = Jvm.exec) (hb : c.code = cc) (hk : sn_K shp rfT fty D cls cA ad base stc p l e R s m args below meth c Q md c0 s0 nL out k) (hd : decode cc pc = .ok (.dup2, 1)) (h : s_dup2 pc k L st x = some out) : sn_W shp rfT fty D cls cA ad base stc p l e R s m args below meth c Q md c0 s0 nL pc L st x := by
  intro H locs cells slots ls S
  unfold s_dup2 at h
  split at h
  · exact lv_dup2_2 hx hb hd rfl (hk _ _ _ _ h H locs cells slots ls (S.stk (sn_ok1 trivial S.2.2.2.1)))
  · next a b st' hne =>
    cases hq : Nat.beq (ev_cats [a, b]) 2 with
    | false => rw [hq] at h; cases h
    | true =>
      rw [hq] at h
      have h2 : ev_cat a + (ev_cat b + 0) = 2 := Nat.eq_of_beq_eq_true hq
      have pa := ev_cat_pos a
      have pb := ev_cat_pos b
      have ha := sn_hd S.2.2.2.1
      have hb' := sn_hd (sn_tl S.2.2.2.1)
      exact lv_dup2_11 hx hb hd (by rw [sn_cat]; omega) (by rw [sn_cat]; omega) (hk _ _ _ _ h H locs cells slots ls (S.stk (sn_ok1 ha (sn_ok1 hb' S.2.2.2.1))))
  · cases h
theorem w_goto {off : Int} (hx : p.tables.exec = Jvm.exec) (hb : c.code = cc) (hk : sn_K shp rfT fty D cls cA ad base stc p l e R s m args below meth c Q md c0 s0 nL out k) (hd : decode cc pc = .ok (.goto off, 3)) (ht : (pc : Int) + off = (r : Int)) (h : k r L st x = some out) : sn_W shp rfT fty D cls cA ad base stc p l e R s m args below meth c Q md c0 s0 nL pc L st x := by
  intro H locs cells slots ls S
  exact lv_goto hx hb hd ht (hk _ _ _ _ h H locs cells slots ls S)
theorem w_icmp {q : ClassFile.Cond} {off : Int} (hx : p.tables.exec = Jvm.exec) (hb : c.code = cc) (hk : sn_K shp rfT fty D cls cA ad base stc p l e R s m args below meth c Q md c0 s0 nL out k) (hd : decode cc pc = .ok (.if_icmp q off, n) ∧ n = 3) (ht : (pc : Int) + off = (r : Int)) (h : s_icmp q r pc n k L st x = some out) : sn_W shp rfT fty D cls cA ad base stc p l e R s m args below meth c Q md c0 s0 nL pc L st x := by
  intro H locs cells slots ls S
  obtain ⟨hd, rfl⟩ := hd
  unfold s_icmp at h
  split at h
  · next y z st' =>
    have S' := S.stk (sn_tl (sn_tl S.2.2.2.1))
    unfold s_cmp at h
    cases q <;> dsimp only at h
    · refine lv_icmp_eq hx hb hd ht (fun h1 => ?_) (fun h1 => ?_)
      · rw [if_pos h1] at h; exact hk _ _ _ _ h H locs cells slots ls S'
      · rw [if_neg h1] at h; exact hk _ _ _ _ h H locs cells slots ls S'
    · refine lv_icmp_ne hx hb hd ht (fun h1 => ?_) (fun h1 => ?_)
      · rw [if_neg h1] at h; exact hk _ _ _ _ h H locs cells slots ls S'
      · rw [if_pos h1] at h; exact hk _ _ _ _ h H locs cells slots ls S'
    · refine lv_icmp_lt hx hb hd ht (fun h1 => ?_) (fun h1 => ?_)
      · rw [if_pos h1] at h; exact hk _ _ _ _ h H locs cells slots ls S'
      · rw [if_neg h1] at h; exact hk _ _ _ _ h H locs cells slots ls S'
    · refine lv_icmp_ge hx hb hd ht (fun h1 => ?_) (fun h1 => ?_)
      · rw [if_neg (Int32.not_lt.mpr h1)] at h; exact hk _ _ _ _ h H locs cells slots ls S'
      · rw [if_pos (Int32.not_le.mp h1)] at h; exact hk _ _ _ _ h H locs cells slots ls S'
    · refine lv_icmp_gt hx hb hd ht (fun h1 => ?_) (fun h1 => ?_)
      · rw [if_neg (Int32.not_le.mpr h1)] at h; exact hk _ _ _ _ h H locs cells slots ls S'
      · rw [if_pos (Int32.not_lt.mp h1)] at h; exact hk _ _ _ _ h H locs cells slots ls S'
    · refine lv_icmp_le hx hb hd ht (fun h1 => ?_) (fun h1 => ?_)
      · rw [if_pos h1] at h; exact hk _ _ _ _ h H locs cells slots ls S'
      · rw [if_neg h1] at h; exact hk _ _ _ _ h H locs cells slots ls S'
  · cases h
theorem w_if {q : ClassFile.Cond} {off : Int} (hx : p.tables.exec = Jvm.exec) (hb : c.code = cc) (hk : sn_K shp rfT fty D cls cA ad base stc p l e R s m args below meth c Q md c0 s0 nL out k) (hd : decode cc pc = .ok (.ifCond q off, n) ∧ n = 3) (ht : (pc : Int) + off = (r : Int)) (h : s_if q r pc n k L st x = some out) : sn_W shp rfT fty D cls cA ad base stc p l e R s m args below meth c Q md c0 s0 nL pc L st x := by
  intro H locs cells slots ls S
  obtain ⟨hd, rfl⟩ := hd
  unfold s_if at h
  split at h
  · next z st' =>
    have S' := S.stk (sn_tl S.2.2.2.1)
    unfold s_cmp at h
    cases q <;> dsimp only at h
    · refine lv_if_eq hx hb hd ht (fun h1 => ?_) (fun h1 => ?_)
      · rw [if_pos h1] at h; exact hk _ _ _ _ h H locs cells slots ls S'
      · rw [if_neg h1] at h; exact hk _ _ _ _ h H locs cells slots ls S'
    · refine lv_if_ne hx hb hd ht (fun h1 => ?_) (fun h1 => ?_)
      · rw [if_neg h1] at h; exact hk _ _ _ _ h H locs cells slots ls S'
      · rw [if_pos h1] at h; exact hk _ _ _ _ h H locs cells slots ls S'
    · refine lv_if_lt hx hb hd ht (fun h1 => ?_) (fun h1 => ?_)
      · rw [if_pos h1] at h; exact hk _ _ _ _ h H locs cells slots ls S'
      · rw [if_neg h1] at h; exact hk _ _ _ _ h H locs cells slots ls S'
    · refine lv_if_ge hx hb hd ht (fun h1 => ?_) (fun h1 => ?_)
      · rw [if_neg (Int32.not_lt.mpr h1)] at h; exact hk _ _ _ _ h H locs cells slots ls S'
      · rw [if_pos (Int32.not_le.mp h1)] at h; exact hk _ _ _ _ h H locs cells slots ls S'
    · refine lv_if_gt hx hb hd ht (fun h1 => ?_) (fun h1 => ?_)
      · rw [if_neg (Int32.not_le.mpr h1)] at h; exact hk _ _ _ _ h H locs cells slots ls S'
      · rw [if_pos (Int32.not_lt.mp h1)] at h; exact hk _ _ _ _ h H locs cells slots ls S'
    · refine lv_if_le hx hb hd ht (fun h1 => ?_) (fun h1 => ?_)
      · rw [if_pos h1] at h; exact hk _ _ _ _ h H locs cells slots ls S'
      · rw [if_neg h1] at h; exact hk _ _ _ _ h H locs cells slots ls S'
  · cases h
end A
end INS
