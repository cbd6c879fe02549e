/-! ===== the heap grows, the house stays ===== -/
section GRW
variable {D : va_G} {cA : Nat → ClassId} {ad : Nat → Nat} {base : Nat} {stc : Nat → Nat → Int32} {x : ev_M} {H H' : Heap}
theorem sn_at.lt {md : Bool} {g : Nat} (h : sn_at shpT rfT ftyT D clsT cA ad md x H g) : ad g < H.size := by
  unfold sn_at at h
  split at h
  · obtain ⟨r, -, cell, q1, -⟩ := h
    exact (Array.getElem?_eq_some_iff.mp q1).1
  all_goals first | exact (Array.getElem?_eq_some_iff.mp h).1 | exact (Array.getElem?_eq_some_iff.mp h.1).1 | exact h.elim
theorem sn_HR.grow (h : sn_HR shpT rfT ftyT D clsT cA ad base stc false x H) (ho : ∀ q : Nat, q < H.size → H'[q]? = H[q]?) : sn_HR shpT rfT ftyT D clsT cA ad base stc false x H' :=
  ⟨fun g hg => (h.1 g hg).kept (hH := ho _ (h.1 g hg).lt) (h1 := fun _ => rfl) (h2 := fun _ => rfl) (h3 := fun _ => rfl), h.2.1, h.2.2.1, fun z => (by cases z), h.2.2.2.2.1, h.2.2.2.2.2⟩
/-- what holds where X is thrown: the house as before -/
def xcT (D : va_G) (cA : Nat → ClassId) (ad : Nat → Nat) (base : Nat) (stc : Nat → Nat → Int32) (X : String) (x : ev_M) : String → State → State → Prop := fun E st t => E = X ∧ sn_HR shpT rfT ftyT D clsT cA ad base stc false x t.heap ∧ va_F (sn_A base) st t
theorem xcT.of {X : String} {s t : State} (h : sn_HR shpT rfT ftyT D clsT cA ad base stc false x s.heap) (hz : s.heap.size ≤ t.heap.size) (ho : ∀ q : Nat, q < s.heap.size → t.heap[q]? = s.heap[q]?) : xcT D cA ad base stc X x X s t := ⟨rfl, h.grow ho, hz, fun q h1 _ => ho q h1⟩
/-- once every reference field is set, a house under construction is a house -/
theorem sn_HR.switch (h : sn_HR shpT rfT ftyT D clsT cA ad base stc true x H) (hf : ∀ g, g < x.2.2.1 → ∀ ci w, shpT g = (0, (ci, w)) → ∀ k, ftyT ci k = 3 → x.2.2.2.1 g k = true) : sn_HR shpT rfT ftyT D clsT cA ad base stc false x H := by
  refine ⟨fun g hg => ?_, h.2.1, h.2.2.1, fun z => (by cases z), h.2.2.2.2.1, fun g hg ci w hs k hk _ => h.2.2.2.2.2 g hg ci w hs k hk (fun _ => hf g hg ci w hs k hk)⟩
  have h1 := h.1 g hg
  unfold sn_at at h1 ⊢
  split at h1
  · next ci w hs =>
    obtain ⟨r, r1, r2⟩ := h1
    refine ⟨r, r1, r2.to fun k _ => ?_⟩
    unfold sn_fv
    split
    · rfl
    · next e =>
      rw [hf g hg ci w hs k e]
      rfl
    · rfl
  all_goals exact h1
/-- a row of a chain of rows by hand: at pc P it is G -/
def at_pc (P : Nat) (G : ev_K) : ev_K := fun pc L st x => if pc = P then G pc L st x else none
theorem sn_K_at {p : Program} {l : Launch} {e : Env} {R : Room} {s : State} {m : MethodId} {args : Array Value} {below : List Frame} {meth : Method} {c : Code} {Q : State → Prop} {md : Bool} {c0 s0 nL P : Nat} {out : ev_O} {G : ev_K} (h : ∀ (L : ev_L) (st : List ev_V) (x : ev_M), G P L st x = some out → sn_W shpT rfT ftyT D clsT cA ad base stc p l e R s m args below meth c Q md c0 s0 nL P L st x) : sn_K shpT rfT ftyT D clsT cA ad base stc p l e R s m args below meth c Q md c0 s0 nL out (at_pc P G) := fun pc L st x h1 => by
  unfold at_pc at h1
  split at h1
  · next e =>
    subst e
    exact h L st x h1
  · cases h1
end GRW
