/-! ===== SOUNDNESS, first half: the relation between the machine's state and the interpreter's; one row an instruction ===== -/
section SND
variable (shp : Nat → Nat × (Nat × (Nat × Nat))) (rfT : Nat → Nat → Nat) (fty : Nat → Nat → Nat) (D : va_G) (cls : List vw_C) (cA : Nat → ClassId) (ad : Nat → Nat) (base : Nat) (stc : Nat → Nat → Int32)
def sn_v (ad : Nat → Nat) (v : ev_V) : Value := match v with
  | .inl x => .int x
  | .inr (.inl x) => .long x
  | .inr (.inr q) => .ref (ad (q.1 + q.2))
def sn_okv (nx : Nat) (v : ev_V) : Prop := match v with
  | .inr (.inr q) => ((q.1 + q.2 < nx ∧ q.1 < 1000) ∨ (1000 ≤ q.1 ∧ q.2 = 0)) ∧ q.2 < sn_cnt (shp q.1)
  | _ => True
def sn_fv (md : Bool) (x : ev_M) (g ci k : Nat) : Value := match fty ci k with
  | 1 => .long (x.2.1 g k)
  | 3 => if md = true ∧ x.2.2.2.1 g k = false then .null else .ref (ad (rfT g k))
  | _ => .int (x.1 g k)
def sn_at (md : Bool) (x : ev_M) (H : Heap) (g : Nat) : Prop := match shp g with
  | (0, (ci, _)) => ∃ r : vw_C, cls[ci]? = some r ∧ t_OB (ad g) (D.1 ci) r.2.2 (D.2 ci) H (sn_fv rfT fty ad md x g ci)
  | (1, (n, _)) => H[ad g]? = some (arrV (cA 1) n (fun j => .int (x.1 g j)))
  | (2, (n, _)) => H[ad g]? = some (arrV (cA 2) n (fun j => .int (x.1 g j))) ∧ ∀ j, fits .byte (.int (x.1 g j)) = true
  | (3, (n, _)) => H[ad g]? = some (arrV (cA 3) n (fun j => .int (x.1 g j)))
  | (4, (n, _)) => H[ad g]? = some (arrV (cA 4) n (fun j => .long (x.2.1 g j)))
  | (5, (n, (f, _))) => H[ad g]? = some (arrV (cA 5) n (fun j => .ref (ad (f + j))))
  | _ => False
def sn_HR (md : Bool) (x : ev_M) (H : Heap) : Prop := (∀ g, g < x.2.2.1 → sn_at shp rfT fty D cls cA ad md x H g) ∧ (∀ g, 1000 ≤ g → ∀ j, x.1 g j = stc g j) ∧ x.2.2.1 ≤ 1000 ∧ (md = true → H.size = base + x.2.2.1) ∧ (∀ g, g < x.2.2.1 → ∀ n f w, shp g = (5, (n, (f, w))) → f + n ≤ x.2.2.1) ∧ ∀ g, g < x.2.2.1 → ∀ ci w, shp g = (0, (ci, w)) → ∀ k, fty ci k = 3 → (md = true → x.2.2.2.1 g k = true) → sn_okv shp x.2.2.1 (vR (rfT g k) 0)
/-- which cells are the claim's own -/
def sn_A (base : Nat) : Nat → Prop := fun q => base ≤ q
def sn_L (nx : Nat) (ls : Array Slot) (nL : Nat) (L : ev_L) : Prop := ls.size = nL ∧ lv_wf ls ∧ ∀ (i : Nat) (v : ev_V), ev_nth L i = some (some v) → sn_okv shp nx v ∧ ls[i]? = some (.val (sn_v ad v))
def sn_asc (ad : Nat → Nat) : Nat → ev_L → List (Nat × Value)
  | _, [] => []
  | k, none :: r => sn_asc ad (k + 1) r
  | k, some v :: r => (k, sn_v ad v) :: sn_asc ad (k + 1) r
theorem sn_asc_mem : ∀ (L : ev_L) (k : Nat) (q : Nat × Value), q ∈ sn_asc ad k L ↔ ∃ (i : Nat) (v : ev_V), ev_nth L i = some (some v) ∧ q = (k + i, sn_v ad v)
  | [], k, q => ⟨fun h => (by cases h), fun ⟨i, v, h, _⟩ => (by cases i <;> cases h)⟩
  | none :: r, k, q => by
    show q ∈ sn_asc ad (k + 1) r ↔ _
    rw [sn_asc_mem r (k + 1) q]
    constructor
    · rintro ⟨i, v, h, e⟩
      exact ⟨i + 1, v, h, by rw [e]; congr 1; omega⟩
    · rintro ⟨i, v, h, e⟩
      cases i with
      | zero => cases h
      | succ i => exact ⟨i, v, h, by rw [e]; congr 1; omega⟩
  | some w :: r, k, q => by
    show q ∈ (k, sn_v ad w) :: sn_asc ad (k + 1) r ↔ _
    rw [List.mem_cons, sn_asc_mem r (k + 1) q]
    constructor
    · rintro (e | ⟨i, v, h, e⟩)
      · exact ⟨0, w, rfl, e⟩
      · exact ⟨i + 1, v, h, by rw [e]; congr 1; omega⟩
    · rintro ⟨i, v, h, e⟩
      cases i with
      | zero =>
        cases h
        exact Or.inl e
      | succ i => exact Or.inr ⟨i, v, h, by rw [e]; congr 1; omega⟩
theorem sn_L.has {nx nL : Nat} {ls : Array Slot} {L : ev_L} (h : sn_L shp ad nx ls nL L) : lv_has ls nL (sn_asc ad 0 L) := by
  refine ⟨h.1, h.2.1, fun q hq => ?_⟩
  obtain ⟨i, v, h1, rfl⟩ := (sn_asc_mem ad L 0 q).mp hq
  have h2 := (h.2.2 i v h1).2
  show ls[0 + i]? = _
  rw [Nat.zero_add]
  exact h2
theorem ev_nth_set {α : Type} : ∀ (L : List (Option α)) (i : Nat) (v : Option α) (j : Nat), ev_nth (ev_set L i v) j = if j = i then (if i < L.length then some v else none) else ev_nth L j
  | [], i, v, j => by
    by_cases h : j = i <;> simp [ev_set, ev_nth, h]
  | a :: r, 0, v, j => by
    cases j <;> simp [ev_set, ev_nth]
  | a :: r, i + 1, v, j => by
    cases j with
    | zero => simp [ev_set, ev_nth]
    | succ j => simp [ev_set, ev_nth, ev_nth_set r i v j]
theorem ev_nth_set_some {α : Type} {L : List (Option α)} {i j : Nat} {v : Option α} {w : α} (h : ev_nth (ev_set L i v) j = some (some w)) : (j = i ∧ v = some w) ∨ (j ≠ i ∧ ev_nth L j = some (some w)) := by
  rw [ev_nth_set] at h
  by_cases hj : j = i
  · rw [if_pos hj] at h
    split at h
    · exact Or.inl ⟨hj, Option.some.inj h⟩
    · cases h
  · rw [if_neg hj] at h
    exact Or.inr ⟨hj, h⟩
theorem ev_kill_some {L : ev_L} {i j : Nat} {w : ev_V} (h : ev_nth (ev_kill L i) j = some (some w)) : ev_nth L j = some (some w) ∧ (j + 1 = i → ∀ x, w ≠ .inr (.inl x)) := by
  cases i with
  | zero => exact ⟨h, fun e => by omega⟩
  | succ i =>
    have h9 : ev_nth (match ev_nth L i with
      | some (some (.inr (.inl _))) => ev_set L i none
      | _ => L) j = some (some w) := h
    split at h9
    · rcases ev_nth_set_some h9 with ⟨-, e⟩ | ⟨hj, e⟩
      · cases e
      · exact ⟨e, fun e2 => absurd (by omega) hj⟩
    · next hn =>
      refine ⟨h9, fun e2 x e => ?_⟩
      subst e
      have : j = i := by omega
      subst this
      exact hn x h9
theorem ev_clr_some : ∀ (d : List Nat) {L : ev_L} {j : Nat} {w : ev_V}, ev_nth (ev_clr L d) j = some (some w) → ev_nth L j = some (some w)
  | [], _, _, _, h => h
  | i :: r, L, j, w, h => by
    rcases ev_nth_set_some (ev_clr_some r h) with ⟨-, e⟩ | ⟨-, e⟩
    · cases e
    · exact e
theorem sn_L.sub {nx nL : Nat} {ls : Array Slot} {L L' : ev_L} (h : sn_L shp ad nx ls nL L) (hs : ∀ (j : Nat) (w : ev_V), ev_nth L' j = some (some w) → ev_nth L j = some (some w)) : sn_L shp ad nx ls nL L' := ⟨h.1, h.2.1, fun i v hv => h.2.2 i v (hs i v hv)⟩
theorem sn_okv.mono {nx nx' : Nat} (h : nx ≤ nx') {v : ev_V} (hv : sn_okv shp nx v) : sn_okv shp nx' v := by
  match v, hv with
  | .inl _, _ => trivial
  | .inr (.inl _), _ => trivial
  | .inr (.inr q), ⟨h1, h2⟩ => exact ⟨h1.imp (fun z => ⟨Nat.lt_of_lt_of_le z.1 h, z.2⟩) id, h2⟩
theorem sn_L.mono {nx nx' nL : Nat} (h0 : nx ≤ nx') {ls : Array Slot} {L : ev_L} (h : sn_L shp ad nx ls nL L) : sn_L shp ad nx' ls nL L := ⟨h.1, h.2.1, fun i v hv => ⟨(h.2.2 i v hv).1.mono shp h0, (h.2.2 i v hv).2⟩⟩
/-- a store of one word: what the kit's rows say of the new locals gives the relation -/
theorem sn_L.st1 {nx nL i : Nat} {ls ls' : Array Slot} {L : ev_L} {v : ev_V} (h : sn_L shp ad nx ls nL L) (hv : sn_okv shp nx v) (h2 : lv_has ls' nL ((i, sn_v ad v) :: (sn_asc ad 0 L).filter (fun q => !(q.1 == i) && !(q.1 + 1 == i && q.2.category == 2)))) : sn_L shp ad nx ls' nL (ev_st1 L i v) := by
  refine ⟨h2.1, h2.2.1, fun j w hw => ?_⟩
  rcases ev_nth_set_some hw with ⟨rfl, e⟩ | ⟨hj, e⟩
  · cases e
    exact ⟨hv, h2.2.2 _ List.mem_cons_self⟩
  · obtain ⟨e1, e2⟩ := ev_kill_some e
    refine ⟨(h.2.2 j w e1).1, h2.2.2 (j, sn_v ad w) (List.mem_cons_of_mem _ (List.mem_filter.mpr ⟨(sn_asc_mem ad L 0 _).mpr ⟨j, w, e1, by rw [Nat.zero_add]⟩, ?_⟩))⟩
    have h3 : (j == i) = false := by simpa using hj
    rw [Bool.and_eq_true]
    refine ⟨by simp [h3], ?_⟩
    by_cases h4 : j + 1 = i
    · have h5 := e2 h4
      match w, h5 with
      | .inl _, _ => simp [sn_v, Value.category]
      | .inr (.inl x), h5 => exact absurd rfl (h5 x)
      | .inr (.inr q), _ => simp [sn_v, Value.category]
    · simp [h4]
theorem sn_L.st2 {nx nL i : Nat} {ls ls' : Array Slot} {L : ev_L} {x : Int64} (h : sn_L shp ad nx ls nL L) (h2 : lv_has ls' nL ((i, Value.long x) :: (sn_asc ad 0 L).filter (fun q => !(q.1 == i) && (!(q.1 == i + 1) && !(q.1 + 1 == i && q.2.category == 2))))) : sn_L shp ad nx ls' nL (ev_st2 L i (vL x)) := by
  refine ⟨h2.1, h2.2.1, fun j w hw => ?_⟩
  obtain ⟨hj1, e0⟩ : j ≠ i + 1 ∧ ev_nth (ev_set (ev_kill L i) i (some (vL x))) j = some (some w) := by
    rcases ev_nth_set_some hw with ⟨-, e⟩ | h9
    · exact absurd e (by simp)
    · exact h9
  rcases ev_nth_set_some e0 with ⟨h8, h9⟩ | ⟨hj, e⟩
  · rw [h8, ← Option.some.inj h9]
    exact ⟨trivial, h2.2.2 _ List.mem_cons_self⟩
  · obtain ⟨e1, e2⟩ := ev_kill_some e
    refine ⟨(h.2.2 j w e1).1, h2.2.2 (j, sn_v ad w) (List.mem_cons_of_mem _ (List.mem_filter.mpr ⟨(sn_asc_mem ad L 0 _).mpr ⟨j, w, e1, by rw [Nat.zero_add]⟩, ?_⟩))⟩
    have h3 : (j == i) = false := by simpa using hj
    have h31 : (j == i + 1) = false := by simpa using hj1
    rw [Bool.and_eq_true, Bool.and_eq_true]
    refine ⟨by simp [h3], by simp [h31], ?_⟩
    by_cases h4 : j + 1 = i
    · have h5 := e2 h4
      match w, h5 with
      | .inl _, _ => simp [sn_v, Value.category]
      | .inr (.inl x), h5 => exact absurd rfl (h5 x)
      | .inr (.inr q), _ => simp [sn_v, Value.category]
    · simp [h4]
/-- a cell that nothing touched -/
theorem sn_at.kept {md : Bool} {x x' : ev_M} {H H' : Heap} {g : Nat} (h : sn_at shp rfT fty D cls cA ad md x H g) (hH : H'[ad g]? = H[ad g]?) (h1 : ∀ j, x'.1 g j = x.1 g j) (h2 : ∀ j, x'.2.1 g j = x.2.1 g j) (h3 : ∀ j, x'.2.2.2.1 g j = x.2.2.2.1 g j) : sn_at shp rfT fty D cls cA ad md x' H' g := by
  unfold sn_at at h ⊢
  split at h
  · obtain ⟨r, r1, r2⟩ := h
    refine ⟨r, r1, (r2.kept hH).to fun k _ => ?_⟩
    unfold sn_fv
    split <;> simp [h1, h2, h3]
  all_goals first | (rw [hH, h]; simp only [h1, h2]; done) | (rw [hH, h]; done) | exact ⟨by rw [hH, h.1]; simp only [h1], fun j => by rw [h1 j]; exact h.2 j⟩ | exact h.elim
end SND
