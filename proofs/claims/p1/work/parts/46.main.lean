/-! ===== SOUNDNESS: calls, and all together ===== -/
section MNA
theorem ev_take_some : ∀ (n : Nat) (acc st : List ev_V) (as st' : List ev_V), ev_take n acc st = some (as, st') → ∃ bs : List ev_V, as = bs ++ acc ∧ st = bs.reverse ++ st' ∧ bs.length = n
  | 0, acc, st, as, st', h => by
    cases h
    exact ⟨[], rfl, rfl, rfl⟩
  | n + 1, acc, [], as, st', h => by cases h
  | n + 1, acc, v :: st, as, st', h => by
    obtain ⟨bs, h1, h2, h3⟩ := ev_take_some n (v :: acc) st as st' h
    refine ⟨bs ++ [v], by rw [h1, List.append_assoc]; rfl, by rw [h2]; simp, by simp [h3]⟩
/-- along a run no cell is given back -/
def ev_le (a b : ev_M) : Prop := a.2.2.1 ≤ b.2.2.1 ∧ a.2.2.2.2.1 ≤ b.2.2.2.2.1 ∧ a.2.2.2.2.2 ≤ b.2.2.2.2.2
theorem ev_le.rf (a : ev_M) : ev_le a a := ⟨Nat.le_refl _, Nat.le_refl _, Nat.le_refl _⟩
theorem ev_le.tr {a b c : ev_M} (h : ev_le a b) (h2 : ev_le b c) : ev_le a c := ⟨Nat.le_trans h.1 h2.1, Nat.le_trans h.2.1 h2.2.1, Nat.le_trans h.2.2 h2.2.2⟩
theorem ev_le.mk1 (n w : Nat) (a : ev_M) : ev_le a (s_make n w a) := ⟨Nat.le_add_right _ _, Nat.le_add_right _ _, Nat.le_add_right _ _⟩
def ev_mk (out : ev_O) (k : ev_K) : Prop := ∀ (pc : Nat) (L : ev_L) (st : List ev_V) (x : ev_M), k pc L st x = some out → ev_le x out.1
variable {shp : Nat → Nat × (Nat × (Nat × Nat))} {rfT : Nat → Nat → Nat} {out : ev_O} {k : ev_K} {pc n r i : Nat} {L : ev_L} {st : List ev_V} {x : ev_M}
theorem m_tab (hk : ev_mk out k) {y : Int32} {d : Int} : ∀ (os : List Int) (v : Int), s_tab pc k L st x y d os v = some out → ev_le x out.1
  | [], _, h => hk _ _ _ _ h
  | o :: r, v, h => by
    have h9 : (if y = cI v then k ((pc : Int) + o).toNat L st x else s_tab pc k L st x y d r (v + 1)) = some out := h
    split at h9
    · exact hk _ _ _ _ h9
    · exact m_tab hk r (v + 1) h9
theorem m_lkp (hk : ev_mk out k) {y : Int32} {d : Int} : ∀ (os : List (Int × Int)), s_lkp pc k L st x y d os = some out → ev_le x out.1
  | [], h => hk _ _ _ _ h
  | (v, o) :: r, h => by
    have h9 : (if y = cI v then k ((pc : Int) + o).toNat L st x else s_lkp pc k L st x y d r) = some out := h
    split at h9
    · exact hk _ _ _ _ h9
    · exact m_lkp hk r h9
theorem bif_some {b : Bool} {t : Option ev_O} (h : (bif b then t else none) = some out) : b = true ∧ t = some out := by
  cases b with
  | true => exact ⟨rfl, h⟩
  | false => cases h
theorem m_get (hk : ev_mk out k) (h : s_get shp rfT r pc n k L st x = some out) : ev_le x out.1 := by
  unfold s_get at h
  split at h
  · split at h
    · have h := (bif_some h).2
      split at h <;> exact hk _ _ _ _ h
    · cases h
  · cases h
theorem m_call {na : Nat} {cf : List ev_V → ev_M → Option ev_O} (hk : ev_mk out k) (hc : ∀ as x o, cf as x = some o → ev_le x o.1) (h : s_call na cf pc k L st x = some out) : ev_le x out.1 := by
  unfold s_call at h
  split at h
  · have h := (bif_some h).2
    unfold ev_after at h
    split at h
    · next q hq => exact (hc _ _ _ hq).tr (hk _ _ _ _ h)
    · cases h
  · cases h
theorem mk_le {x' : ev_M} (hk : ev_mk out k) (h : k pc L st x' = some out) (e : x'.2.2.1 = x.2.2.1 ∧ x'.2.2.2.2 = x.2.2.2.2 := by exact ⟨rfl, rfl⟩) : ev_le x out.1 := by
  have h1 := hk _ _ _ _ h
  unfold ev_le at h1 ⊢
  rw [e.1, e.2] at h1
  exact h1
theorem m_sem {md : Bool} {na : Nat → Nat} {bret : Bool} {ins : Instr} {r : Int} {cf : Nat → List ev_V → ev_M → Option ev_O} (hk : ev_mk out k) (hc : ∀ c as x o, cf c as x = some o → ev_le x o.1) (h : ev_sem shp rfT md na bret ins n r pc cf k L st x = some out) : ev_le x out.1 := by
  cases ins
  case getfield idx =>
    have h9 : (bif md && Nat.beq (r.toNat % 4) 3 then s_getr shp rfT r.toNat pc n k L st x else s_get shp rfT r.toNat pc n k L st x) = some out := h
    cases hq : md && Nat.beq (r.toNat % 4) 3 with
    | false => rw [hq] at h9; exact m_get hk h9
    | true =>
      rw [hq] at h9
      have h9 : s_getr shp rfT r.toNat pc n k L st x = some out := h9
      unfold s_getr at h9
      split at h9
      · exact m_get hk (bif_some h9).2
      · cases h9
  case putfield idx =>
    have h9 : (bif Nat.beq (r.toNat % 4) 3 then (bif md then s_putr shp rfT r.toNat pc n k L st x else none) else s_put shp r.toNat pc n k L st x) = some out := h
    cases hq : Nat.beq (r.toNat % 4) 3 with
    | false =>
      rw [hq] at h9
      have h9 : s_put shp r.toNat pc n k L st x = some out := h9
      unfold s_put at h9
      split at h9
      · split at h9
        · have h9 := (bif_some h9).2
          split at h9
          · exact mk_le hk h9
          · exact mk_le hk h9
          · split at h9
            · exact mk_le hk h9
            · cases h9
          · cases h9
        · cases h9
      · cases h9
    | true =>
      rw [hq] at h9
      have h9 := (bif_some (show (bif md then s_putr shp rfT r.toNat pc n k L st x else none) = some out from h9)).2
      unfold s_putr at h9
      split at h9
      · split at h9
        · exact mk_le hk (bif_some h9).2
        · cases h9
      · cases h9
  case tableswitch d lo hi os =>
    simp only [ev_sem] at h
    split at h
    · exact m_tab hk _ _ h
    · cases h
  case lookupswitch d ps =>
    simp only [ev_sem] at h
    split at h
    · exact m_lkp hk _ h
    · cases h
  case invokestatic idx => exact m_call hk (hc _) h
  case invokevirtual idx => exact m_call hk (hc _) h
  case invokespecial idx => exact m_call hk (hc _) h
  case new idx =>
    have h9 := (bif_some (show (bif md then s_new shp r.toNat pc k L st x else none) = some out from h)).2
    unfold s_new at h9
    split at h9
    · exact (ev_le.mk1 _ _ _).tr (hk _ _ _ _ (bif_some h9).2)
    · cases h9
  case newarray at' =>
    have h9 := (bif_some (show (bif md then s_newa shp r.toNat pc k L st x else none) = some out from h)).2
    unfold s_newa at h9
    split at h9
    · have h9 := (bif_some h9).2
      split at h9
      · exact (ev_le.mk1 _ _ _).tr (hk _ _ _ _ h9)
      · cases h9
    · cases h9
  case multianewarray idx d =>
    have h9 := (bif_some (show (bif md then s_newm shp pc k L st x else none) = some out from h)).2
    unfold s_newm at h9
    split at h9
    · split at h9
      · have h9 := (bif_some h9).2
        split at h9
        · exact (ev_le.mk1 _ _ _).tr (hk _ _ _ _ h9)
        · cases h9
      · cases h9
    · cases h9
  case ldc idx =>
    have h9 : s_ldc r pc n k L st x = some out := h
    unfold s_ldc at h9
    cases hq : ev_str r <;> rw [hq] at h9 <;> exact mk_le hk h9
  case ldc_w idx =>
    have h9 : s_ldc r pc n k L st x = some out := h
    unfold s_ldc at h9
    cases hq : ev_str r <;> rw [hq] at h9 <;> exact mk_le hk h9
  case ifCond q off =>
    have h9 : s_if q r.toNat pc n k L st x = some out := h
    unfold s_if s_cmp at h9
    split at h9
    · split at h9 <;> split at h9 <;> exact mk_le hk h9
    · cases h9
  case if_icmp q off =>
    have h9 : s_icmp q r.toNat pc n k L st x = some out := h
    unfold s_icmp s_cmp at h9
    split at h9
    · split at h9 <;> split at h9 <;> exact mk_le hk h9
    · cases h9
  case ireturn =>
    have h9 : s_ret bret st x = some out := h
    unfold s_ret at h9
    split at h9
    · cases bret with
      | false =>
        cases h9
        exact ev_le.rf _
      | true =>
        have h9 : (if _ then _ else _) = some out := h9
        split at h9
        · cases h9
          exact ev_le.rf _
        · cases h9
    · cases h9
  all_goals first
    | (have h9 : (none : Option ev_O) = some out := h; cases h9)
    | (simp only [ev_sem, s_rld, s_ild, s_lld, s_rst, s_ist, s_lst, s_inc, s_push, s_iald, s_bald, s_lald, s_aald, s_iast, s_bast, s_last, s_alen, s_bin, s_div, s_un, s_lbin, s_ldiv, s_lcmp, s_i2l, s_l2i, s_dup, s_pop, s_dupx1, s_dupx2, s_dup2, s_ret, s_lret] at h
       first
         | exact mk_le hk h
         | ((repeat' split at h) <;> first | exact mk_le hk h | exact mk_le hk (bif_some h).2 | (cases h; exact ev_le.rf _) | cases h))
end MNA
