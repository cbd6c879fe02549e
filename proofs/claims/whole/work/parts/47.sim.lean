/-! ===== SOUNDNESS: all instructions together, by induction on the number of steps ===== -/
section SIM
variable {shp : Nat → Nat × (Nat × (Nat × Nat))} {rfT : Nat → Nat → Nat} {cod : Nat → List (List ev_E)} {dat : Nat → ev_D} {prm : Nat → Option (List ev_V → ev_M → Option ev_O)} {md : Bool}
theorem ev_mono (hp : ∀ c w as x o, prm c = some w → w as x = some o → ev_le x o.1) : ∀ (f M pc : Nat) (L : ev_L) (st : List ev_V) (x : ev_M) (out : ev_O), ev shp rfT cod dat prm md f M pc L st x = some out → ev_le x out.1
  | 0, _, _, _, _, _, _, h => by cases h
  | f + 1, M, pc, L, st, x, out, h => by
    have h9 : (match ev_fnd2 (cod M) pc with
      | some q => ev_sem shp rfT md (fun c => (dat c).2.1) (dat M).2.2.1 q.1 q.2.1 q.2.2.1 pc (fun c as s => match prm c with
        | some w => w as s
        | none => bif ev_chk shp (dat c).2.2.2 (dat c).1 as then ev shp rfT cod dat prm md f c 0 (ev_ent as (dat c).1) [] s else none) (ev shp rfT cod dat prm md f M) (ev_clr L q.2.2.2) st x
      | none => none) = some out := h
    split at h9
    · refine m_sem (fun pc L st x h => ev_mono hp f M pc L st x out h) (fun c as x o h => ?_) h9
      split at h
      · next w hw => exact hp c w as x o hw h
      · exact ev_mono hp f c 0 _ [] x o (bif_some h).2
    · cases h9
end SIM
section SIN
variable (shp : Nat → Nat × (Nat × (Nat × Nat))) (rfT : Nat → Nat → Nat) (fty : Nat → Nat → Nat) (D : va_G) (cls : List vw_C) (cA : Nat → ClassId) (ad : Nat → Nat) (base : Nat) (stc : Nat → Nat → Int32)
/-- what else is known of the world below base, and stays -/
def sn_ES (base : Nat) (EX : State → Prop) : Prop := ∀ s U : State, s.WarmedH U.vm → s.heap.size ≤ U.heap.size → (∀ q : Nat, q < s.heap.size → ¬ base ≤ q → U.heap[q]? = s.heap[q]?) → EX s → EX U
/-- the world's constants at a state: the classes, the nest mates' links, the static tables -/
def sn_WK (nws : List (String × (Nat × (MethodName × String)))) (sts : List (String × (String × (String × Nat)))) (EX : State → Prop) (s : State) : Prop := va_K D cls (sn_tys cA) s ∧ (∀ q ∈ nws, va_Nw (.methodLinkNest q.1 q.2.1 q.2.2.1 q.2.2.2) s) ∧ (Cond.arrayOver (.array .int)).before #[] s = true ∧ (∀ q ∈ sts, va_Z q.1 q.2.1 q.2.2.1 (.ref (ad q.2.2.2)) (sn_A base) s s.heap) ∧ sn_st base ad stc shp s ∧ base ≤ s.heap.size ∧ sn_ES base EX ∧ EX s
theorem sn_AO_moved {u U : State} (hvm : u.vm.Alike U.vm) (h : (Cond.arrayOver (.array .int)).before #[] u = true) : (Cond.arrayOver (.array .int)).before #[] U = true := by
  have e1 : U.vm.findClass (FieldType.array .int).toString = u.vm.findClass (FieldType.array .int).toString := hvm.findClass _ _
  have e2 : U.vm.findClass ("[" ++ (FieldType.array .int).toString) = u.vm.findClass ("[" ++ (FieldType.array .int).toString) := hvm.findClass _ _
  have hi : ∀ comp : ClassId, (U.vm.classes.findIdx? fun (x : Class) => match x.kind with | .array component _ => component == comp | _ => false) = (u.vm.classes.findIdx? fun (x : Class) => match x.kind with | .array component _ => component == comp | _ => false) := fun comp => by
    have a := va_idx_bare U.vm comp
    have b := va_idx_bare u.vm comp
    first | rw [hvm.bare_eq] at a | rw [← hvm.bare_eq] at a
    exact a.symm.trans b
  unfold Cond.before Cond.holds at h ⊢
  simp only [Cond.value, beq_iff_eq] at h ⊢
  rw [e1]
  simp only [Option.bind_eq_some_iff, Option.map_eq_some_iff] at h ⊢
  obtain ⟨comp, h1, c, h2, k, h3, h4⟩ := h
  obtain ⟨k', hk', he⟩ := hvm.2.2 _ _ h3
  refine ⟨comp, h1, c, (hi comp).trans h2, k', hk', ?_⟩
  have hkind : k'.kind = k.kind := by rw [he]
  rw [hkind, e2]
  exact h4
theorem sn_WK.moved {nws : List (String × (Nat × (MethodName × String)))} {sts : List (String × (String × (String × Nat)))} {EX : State → Prop} {s U : State} {H : Heap} {locs : List Loc} (hW : s.WarmedH U.vm) (hH : U.heap = H) (hS : va_S (sn_A base) s.heap H locs) (h : sn_WK shp D cls cA ad base stc nws sts EX s) : sn_WK shp D cls cA ad base stc nws sts EX U := by
  obtain ⟨h1, h2, h3, h4, h5, h6, h7, h8⟩ := h
  have hal := hW.alike
  refine ⟨va_K.moved hal h1, fun q hq => va_Nw.warmM hW (h2 q hq), sn_AO_moved hal h3, fun q hq => ?_, fun g hg => ⟨fun n w hs => ?_, fun w hs => ⟨?_, ((h5 g hg).2.1 w hs).2⟩, (h5 g hg).2.2⟩, by rw [hH]; exact Nat.le_trans h6 hS.1, h7, h7 s U hW (by rw [hH]; exact hS.1) (fun q h1 h2 => by rw [hH]; exact hS.2.1 q h1 h2) h8⟩
  · rw [hH]; exact (va_Z.moved hal (h4 q hq)).kept hS.2.1
  · rw [hH]; exact (va_T.moved hal ((h5 g hg).1 n w hs)).kept hS.2.1
  · rw [hH]; exact (va_T.moved hal ((h5 g hg).2.1 w hs).1).kept hS.2.1
theorem sn_WK.calling {nws : List (String × (Nat × (MethodName × String)))} {sts : List (String × (String × (String × Nat)))} {EX : State → Prop} {U : State} {g : JFrame} {mk : MethodId} {a : Array Value} (h : sn_WK shp D cls cA ad base stc nws sts EX U) : sn_WK shp D cls cA ad base stc nws sts EX (U.calling g mk a) :=
  sn_WK.moved shp D cls cA ad base stc (s := U) (U := U.calling g mk a) (H := U.heap) (locs := []) (State.WarmedH.refl U) rfl va_S.rf h
end SIN
