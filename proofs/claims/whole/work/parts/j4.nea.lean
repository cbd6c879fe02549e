/-! ===== LEVEL 3: to the nearest, step by step ===== -/
theorem or_0 {x y : Int32} : (x ||| y) = 0 ↔ x = 0 ∧ y = 0 := by
  constructor
  · intro h
    have h2 : x.toBitVec ||| y.toBitVec = 0#32 := by
      have := congrArg Int32.toBitVec h
      simpa using this
    rw [BitVec.or_eq_zero_iff] at h2
    exact ⟨Int32.toBitVec_inj.mp h2.1, Int32.toBitVec_inj.mp h2.2⟩
  · rintro ⟨h1, h2⟩
    rw [h1, h2]; rfl
theorem or_and1 {x y z : Int32} : (x ||| y) &&& z = (x &&& z) ||| (y &&& z) := by
  apply Int32.toBitVec_inj.mp
  simp only [Int32.toBitVec_and, Int32.toBitVec_or]
  rw [BitVec.and_comm, BitVec.and_or_distrib_left, BitVec.and_comm, BitVec.and_comm (x := z.toBitVec)]
theorem bit_20 : ∀ b : Nat, b < 20 → ∀ k : Nat, k < 20 → ((((cI 1 <<< (cI (b : Int) &&& 31)) >>> (cI (k : Int) &&& 31)) &&& cI 1 = 0) ↔ b ≠ k) := by decide +kernel
/-- the place k isn't yet visited -/
def unv (x : Int32) (k : Nat) : Bool := decide (((x >>> (cI (k : Int) &&& 31)) &&& cI 1) = 0)
theorem unv_or {x : Int32} {b k : Nat} (hb : b < 20) (hk : k < 20) : unv (x ||| (cI 1 <<< (cI (b : Int) &&& 31))) k = (unv x k && decide (b ≠ k)) := by
  unfold unv
  rw [Int32.shiftRight_or, or_and1, Bool.eq_iff_iff]
  simp only [decide_eq_true_iff, Bool.and_eq_true]
  rw [or_0, bit_20 b hb k hk]
theorem unv_0 : ∀ k : Nat, k < 20 → unv (cI 0) k = true := by decide +kernel
theorem inF_r12 {i k : Nat} (h : i < 12) : inF [(146, 157, 0)] (146 + i) k = true := inF_st h
theorem sh_lp {a p : Nat} {x1 v : Int32} {k9 : ev_M → Int32 → Nat → Int32 → Option ev_M} (ha : a < 12) : ∀ (e m : Nat) (s : ev_M), p + e < 20 → e < m → ∃ s', fRounds_goToNearest_h106 k9 m s x1 a (cI (p : Int)) v (cI ((p + e : Nat) : Int)) = k9 s' x1 a (cI ((p + 1 : Nat) : Int)) ∧ (∀ q, s'.1 (146 + a) q = if q = p then v else if p < q ∧ q ≤ p + e then s.1 (146 + a) (q - 1) else s.1 (146 + a) q) ∧ (∀ c, c ≠ 146 + a → s'.1 c = s.1 c) ∧ fr [(146, 157, 0)] s s'
  | 0, m, s, hp, hm => by
    obtain ⟨m, rfl⟩ : ∃ k, m = k + 1 := ⟨m - 1, by omega⟩
    refine ⟨wI s (146 + a) p v, ?_, fun q => ?_, fun c hc => wI_ne hc, fr.rf.wI (inF_r12 ha)⟩
    · rw [fRounds_goToNearest_h106, if_pos (by rw [le_i]; exact Int.le_refl _), if_pos (k_in (by omega) (by decide)), ltM_eq, k_ix (by omega), k_s (by omega)]
    · rw [wI_c]
      by_cases z : q = p
      · subst z; rw [up1_eq, if_pos rfl]
      · rw [up1_ne z, if_neg z, if_neg (by omega)]
  | e + 1, m, s, hp, hm => by
    obtain ⟨m, rfl⟩ : ∃ k, m = k + 1 := ⟨m - 1, by omega⟩
    obtain ⟨s', b1, b2, b3, b4⟩ := sh_lp (p := p) (x1 := x1) (v := v) (k9 := k9) ha e m (wI s (146 + a) (p + e + 1) (s.1 (146 + a) (p + e))) (by omega) (by omega)
    refine ⟨s', ?_, fun q => ?_, fun c hc => by rw [b3 c hc, wI_ne hc], (fr.rf.wI (inF_r12 ha)).tr b4⟩
    · rw [fRounds_goToNearest_h106, if_neg (by rw [le_i, k_ti (by omega), k_ti (by omega)]; omega), show p + (e + 1) = (p + e) + 1 by omega, k_m (by omega), if_pos (k_in (by omega) (by decide)), if_pos (k_in (by omega) (by decide)), ltM_eq, k_ix (by omega), k_ix (by omega), k_p (by omega)]
      exact b1
    · rw [b2 q, wI_c]
      by_cases z : q = p
      · rw [if_pos z, if_pos z]
      · rw [if_neg z, if_neg z]
        by_cases y : p < q ∧ q ≤ p + e
        · rw [if_pos y, if_pos ⟨y.1, by omega⟩, up1_ne (by omega)]
        · rw [if_neg y]
          by_cases w : q = p + e + 1
          · subst w
            rw [up1_eq, if_pos ⟨by omega, by omega⟩, show p + e + 1 - 1 = p + e by omega]
          · rw [up1_ne w, if_neg (by omega)]
def lst (n : Nat) (o : Nat → Nat) : Nat → Nat
  | 0 => n
  | p + 1 => o p
/-- the way up to the stop p -/
def sp (d : Nat → Nat → Int32) (n : Nat) (o : Nat → Nat) : Nat → Int32
  | 0 => cI 0
  | p + 1 => sp d n o p + d (lst n o p) (o p)
theorem lst_cg {n : Nat} {o o' : Nat → Nat} : ∀ {p : Nat}, (∀ q, q < p → o' q = o q) → lst n o' p = lst n o p
  | 0, _ => rfl
  | p + 1, h => h p (by omega)
theorem sp_cg {d : Nat → Nat → Int32} {n : Nat} {o o' : Nat → Nat} : ∀ {p : Nat}, (∀ q, q < p → o' q = o q) → sp d n o' p = sp d n o p
  | 0, _ => rfl
  | p + 1, h => by
    show _ + _ = _ + _
    rw [sp_cg (p := p) (fun q hq => h q (by omega)), lst_cg (p := p) (fun q hq => h q (by omega)), h p (by omega)]
def fpI (p : Nat) (o : Option Nat) : Int32 := match o with | none => cI (p : Int) | some b => cI (b : Int)
/-- the class looks along its row -/
theorem ns_lp {a : Int32} {n p : Nat} {P o : Nat → Nat} {d : Nat → Nat → Int32} {k9 : ev_M → Int32 → Nat → Int32 → Option ev_M} {s : ev_M} (hn : n ≤ 20) (ha : inb a 12 = true) (hd : Dn d n) (hc : ∀ q, q < n → d n q = d q n) (h3 : s.1 143 (ix a) = cI (n : Int)) (hG : Gq s a n P d) (hp : p < n) (ho : ∀ q, q < n → o q < n) (hR : ∀ q, q < n → s.1 (146 + ix a) q = cI (P (o q) : Int)) : ∀ (r m k : Nat), k + r = n → r < m → p ≤ k → ∃ b, p ≤ b ∧ b < n ∧ (∀ q, p ≤ q → q < n → (d (lst n o p) (o b)).toInt ≤ (d (lst n o p) (o q)).toInt) ∧ (∀ q, p ≤ q → q < b → (d (lst n o p) (o b)).toInt < (d (lst n o p) (o q)).toInt) ∧ fRounds_goToNearest_h31 k9 m s a (ix a) (cI (p : Int)) (fpI p (fam (fun q => d (lst n o p) (o q)) (fun q => decide (p ≤ q)) k)) (fbV (fun q => d (lst n o p) (o q)) (fam (fun q => d (lst n o p) (o q)) (fun q => decide (p ≤ q)) k)) (cI (k : Int)) = fRounds_goToNearest_h106 k9 1048576 s a (ix a) (cI (p : Int)) (cI (P (o b) : Int)) (cI (b : Int))
  | 0, m, k, hk, hm, hpk => by
    obtain ⟨m, rfl⟩ : ∃ k, m = k + 1 := ⟨m - 1, by omega⟩
    have e : k = n := by omega
    subst e
    obtain ⟨b, hb⟩ := fam_some (g := fun q => d (lst k o p) (o q)) (m := fun q => decide (p ≤ q)) (c := k) (j := p) hp (by simp)
    obtain ⟨q1, q2, q3, q4⟩ := fam_at hb
    have q2' : p ≤ b := by simpa using q2
    refine ⟨b, q2', q1, fun q h1 h2 => q3 q h2 (by simpa using h1), fun q h1 h2 => q4 q h2 (by simpa using h1), ?_⟩
    rw [hb]
    have e3 : s.1 (140 + ix (cI 3)) (ix a) = cI (k : Int) := by rw [ix_3]; exact h3
    rw [fRounds_goToNearest_h31, if_pos ha, e3, if_neg (by rw [k_lt (by omega) (by omega)]; omega), show fpI p (some b) = cI (b : Int) from rfl, if_pos (k_in (by omega) (by decide)), ltI_eq, k_ix (by omega), hR b q1]
  | r + 1, m, k, hk, hm, hpk => by
    obtain ⟨m, rfl⟩ : ∃ k, m = k + 1 := ⟨m - 1, by omega⟩
    obtain ⟨b, b1, b2, b3, b4, b5⟩ := ns_lp (k9 := k9) hn ha hd hc h3 hG hp ho hR r m (k + 1) (by omega) (by omega) (by omega)
    refine ⟨b, b1, b2, b3, b4, ?_⟩
    have lt : cI (k : Int) < cI (n : Int) := (k_lt (by omega) (by omega)).mpr (by omega)
    have key : ∀ (v : Int32), v = d (lst n o p) (o k) → fRounds_goToNearest_b73 k9 (fRounds_goToNearest_h31 k9 m) s a (ix a) (cI (p : Int)) (fpI p (fam (fun q => d (lst n o p) (o q)) (fun q => decide (p ≤ q)) k)) (fbV (fun q => d (lst n o p) (o q)) (fam (fun q => d (lst n o p) (o q)) (fun q => decide (p ≤ q)) k)) (cI (k : Int)) v = fRounds_goToNearest_h106 k9 1048576 s a (ix a) (cI (p : Int)) (cI (P (o b) : Int)) (cI (b : Int)) := by
      intro v hv
      subst hv
      rw [← b5]
      simp only [fRounds_goToNearest_b73, fRounds_goToNearest_b90]
      rw [k_s (by omega)]
      have hk2 : decide (p ≤ k) = true := by simpa using hpk
      have ln : lst n o p ≤ n := by
        cases p with
        | zero => exact Nat.le_refl _
        | succ p => have := ho p (by omega); show o p ≤ n; omega
      cases e : fam (fun q => d (lst n o p) (o q)) (fun q => decide (p ≤ q)) k with
      | none =>
        have e2 : fam (fun q => d (lst n o p) (o q)) (fun q => decide (p ≤ q)) (k + 1) = some k := by
          unfold fam
          rw [if_pos hk2, e]
        rw [e2, if_pos (by
          have := (hd (lst n o p) (o k) ln (by have := ho k (by omega); omega)).2
          rw [lt_i, show (fbV (fun q => d (lst n o p) (o q)) none).toInt = 2147483647 from rfl]; omega)]
        rfl
      | some b' =>
        by_cases w : d (lst n o p) (o k) < d (lst n o p) (o b')
        · have e2 : fam (fun q => d (lst n o p) (o q)) (fun q => decide (p ≤ q)) (k + 1) = some k := by
            unfold fam
            rw [if_pos hk2, e]
            simp only [if_pos w]
          rw [e2, if_pos (show d (lst n o p) (o k) < fbV (fun q => d (lst n o p) (o q)) (some b') from w)]
          rfl
        · have e2 : fam (fun q => d (lst n o p) (o q)) (fun q => decide (p ≤ q)) (k + 1) = some b' := by
            unfold fam
            rw [if_pos hk2, e]
            simp only [if_neg w]
          rw [e2, if_neg (show ¬ d (lst n o p) (o k) < fbV (fun q => d (lst n o p) (o q)) (some b') from w)]
    have e3 : s.1 (140 + ix (cI 3)) (ix a) = cI (n : Int) := by rw [ix_3]; exact h3
    rw [fRounds_goToNearest_h31, if_pos ha, e3, if_pos lt]
    by_cases z : p = 0
    · subst z
      rw [if_pos (show cI ((0 : Nat) : Int) = 0 from rfl), if_pos (k_in (by omega) (by decide)), k_ix (by omega), hR k (by omega), (hG (o k) (ho k (by omega))).1, bd1_some]
      exact key _ (hc (o k) (ho k (by omega))).symm
    · obtain ⟨p', rfl⟩ : ∃ k, p = k + 1 := ⟨p - 1, by omega⟩
      rw [if_neg (show ¬ cI ((p' + 1 : Nat) : Int) = 0 from fun w => by
        rw [eq_i, k_ti (by omega), i32_0] at w; omega), k_m (by omega), if_pos (k_in (by omega) (by decide)), if_pos (k_in (by omega) (by decide)), k_ix (by omega), k_ix (by omega), hR k (by omega), hR p' (by omega), (hG (o p') (ho p' (by omega))).2 (o k) (ho k (by omega)), bd1_some]
      exact key _ rfl
