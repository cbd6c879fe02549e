/-! ===== CONSTRUCTORS: runs of the interpreter in a constructor; the constructors as functions ===== -/
/-- in a constructor the law's own helpers are not called -/
def prmC (c : Nat) : Option (List ev_V → ev_M → Option ev_O) := bif Nat.ble 910 c then some fun _ _ => none else prmT c
noncomputable def evC (f : Nat) (M pc : Nat) (L : ev_L) (st : List ev_V) (s : ev_M) : Option ev_O := ev shpT rfT codT datT prmC true f M pc L st s
abbrev RC (M pc : Nat) (L : ev_L) (st : List ev_V) (s : ev_M) (r : ev_O) : Prop := RG (fun f => evC f M pc L st s) r
def wF (s : ev_M) (g k : Nat) : ev_M := (s.1, (s.2.1, (s.2.2.1, (u2 s.2.2.2.1 g k true, s.2.2.2.2))))
section
variable {α : Type} {r : ev_O}
theorem rc_ltM {v : ev_M} {B : ev_M → Option α} {q : α} {M pc : Nat} {L : ev_L} {st : List ev_V} (h : ltM v B = some q) (k : ∀ s1, B s1 = some q → RC M pc L st s1 r) : RC M pc L st v r := k v h
theorem rc_bf {c : Bool} {a : Option α} {q : α} {A : Nat → Option ev_O} (h : (bif c then a else none) = some q) (k : a = some q → RG A r) : RG (fun f => bif c then A f else none) r := by
  cases c with
  | true => exact k h
  | false => cases h
theorem rc_gd {c : Prop} [Decidable c] {a : Option α} {q : α} {P : Prop} (h : (if c then a else none) = some q) (k : c → a = some q → P) : P := by
  by_cases hc : c
  · rw [if_pos hc] at h; exact k hc h
  · rw [if_neg hc] at h; cases h
end
theorem evC_step (f M pc : Nat) (L : ev_L) (st : List ev_V) (s : ev_M) {q : Instr × (Nat × (Int × List Nat))} (h : ev_fnd2 (codT M) pc = some q) : evC (f + 1) M pc L st s = ev_sem shpT rfT true (fun c => (datT c).2.1) (datT M).2.2.1 q.1 q.2.1 q.2.2.1 pc (fun c as s => match prmC c with
      | some w => w as s
      | none => bif ev_chk shpT (datT c).2.2.2 (datT c).1 as then evC f c 0 (ev_ent as (datT c).1) [] s else none) (evC f M) (ev_clr L q.2.2.2) st s := by
  show (match ev_fnd2 (codT M) pc with
    | some q => _
    | none => none) = _
  rw [h]
  rfl
theorem cv_new {f M pc idx g : Nat} {r : Int} {L : ev_L} {st : List ev_V} {s : ev_M} {ci w y : Nat} (hn : s.2.2.1 = g) (h : ev_fnd2 (codT M) pc = some (.new idx, (3, (r, [])))) (hs : shpT g = (0, (ci, (w, y)))) (hr : Nat.beq ci r.toNat = true) : evC (f + 1) M pc L st s = evC f M (pc + 3) L (vR g 0 :: st) (s_make 1 w s) := by
  rw [evC_step f M pc L st s h]
  show s_new shpT r.toNat pc (evC f M) L st s = _
  unfold s_new
  rw [hn, hs]
  show (bif Nat.beq ci r.toNat then _ else none) = _
  rw [hr]
  rfl
theorem cv_newa {f M pc g n t : Nat} {a : ClassFile.ArrayType} {r : Int} {L : ev_L} {st : List ev_V} {s : ev_M} (hn : s.2.2.1 = g) (h : ev_fnd2 (codT M) pc = some (.newarray a, (2, (r, [])))) (hs : shpT g = (t, (n, (1, 0)))) (hr : (Nat.beq t r.toNat && Nat.ble 1 t && Nat.ble t 4) = true) : evC (f + 1) M pc L (vI (cI n) :: st) s = evC f M (pc + 2) L (vR g 0 :: st) (s_make 1 n s) := by
  rw [evC_step f M pc L _ s h]
  show s_newa shpT r.toNat pc (evC f M) L _ s = _
  unfold s_newa
  rw [hn, hs]
  show (bif Nat.beq t r.toNat && Nat.ble 1 t && Nat.ble t 4 then (if cI n = cI n then _ else none) else none) = _
  rw [hr, if_pos rfl]
  rfl
theorem cv_newm {f M pc idx g n m : Nat} {r : Int} {L : ev_L} {st : List ev_V} {s : ev_M} {w : Nat} (hn : s.2.2.1 = g) (h : ev_fnd2 (codT M) pc = some (.multianewarray idx 2, (4, (r, [])))) (hs : shpT g = (5, (n, (g + 1, w)))) (hs2 : shpT (g + 1) = (1, (m, (n, 0)))) : evC (f + 1) M pc L (vI (cI m) :: vI (cI n) :: st) s = evC f M (pc + 4) L (vR g 0 :: st) (s_make (1 + n) (n + n * m) s) := by
  rw [evC_step f M pc L _ s h]
  show s_newm shpT pc (evC f M) L _ s = _
  unfold s_newm
  rw [hn, hs]
  show (match shpT (g + 1) with
    | (1, (m', (c, 0))) => (bif Nat.beq (g + 1) (g + 1) && Nat.beq c n then (if cI n = cI n ∧ cI m = cI m' then evC f M (pc + 4) L (vR g 0 :: st) (s_make (1 + n) (n + n * m') s) else none) else none)
    | _ => none) = _
  rw [hs2]
  show (bif Nat.beq (g + 1) (g + 1) && Nat.beq n n then (if cI n = cI n ∧ cI m = cI m then _ else none) else none) = _
  rw [Nat.beq_refl, Nat.beq_refl, if_pos ⟨rfl, rfl⟩]
  rfl
def gTape_init_1 (s : ev_M) : Option ev_M :=
  if s.2.2.1 = 2 then
  ltM (s_make 1 4096 s) fun s1 =>
  ltM (wF s1 1 0) fun s2 =>
  if s2.2.2.1 = 3 then
  ltM (s_make 1 4 s2) fun s3 =>
  ltM (wF s3 1 3) fun s4 =>
  some s4
  else none
  else none
def gTape_init_4 (s : ev_M) : Option ev_M :=
  if s.2.2.1 = 5 then
  ltM (s_make 1 4096 s) fun s1 =>
  ltM (wF s1 4 0) fun s2 =>
  if s2.2.2.1 = 6 then
  ltM (s_make 1 4 s2) fun s3 =>
  ltM (wF s3 4 3) fun s4 =>
  some s4
  else none
  else none
def gBars_init (s : ev_M) : Option ev_M :=
  if s.2.2.1 = 8 then
  ltM (s_make 1 15 s) fun s1 =>
  ltM (wF s1 7 0) fun s2 =>
  ltM (wI s2 7 1 (cI (-1))) fun s3 =>
  some s3
  else none
def gLog_init_1 (s : ev_M) : Option ev_M :=
  if s.2.2.1 = 10 then
  ltM (s_make 1 38400 s) fun s1 =>
  ltM (wF s1 9 1) fun s2 =>
  if s2.2.2.1 = 11 then
  ltM (s_make 1 150 s2) fun s3 =>
  ltM (wF s3 9 2) fun s4 =>
  if s4.2.2.1 = 12 then
  ltM (s_make 1 256 s4) fun s5 =>
  ltM (wF s5 9 3) fun s6 =>
  if s6.2.2.1 = 13 then
  ltM (s_make 1 37200 s6) fun s7 =>
  ltM (wF s7 9 5) fun s8 =>
  ltM (wI s8 9 10 (cI (-1))) fun s9 =>
  if s9.2.2.1 = 14 then
  ltM (s_make 1 6 s9) fun s10 =>
  ltM (wF s10 9 15) fun s11 =>
  ltM (wF s11 9 0) fun s12 =>
  some s12
  else none
  else none
  else none
  else none
  else none
def gArr_fillI_20_h5 : Nat → ev_M → Int32 → Int32 → Int32 → Option ev_M
  | 0, _, _, _, _ => none
  | n + 1, s, x1, x2, x3 =>
    if x2 < x3 then
      if inb x2 300 = true then
      ltM (wI s 20 (ix x2) x1) fun s1 =>
      (gArr_fillI_20_h5 n) s1 x1 (x2 + cI 1) x3
      else none
    else
      some s
def gArr_fillI_20 (s : ev_M) (a1 : Int32) : Option ev_M :=
  gArr_fillI_20_h5 1048576 s a1 (cI 0) (cI 300)
def gArr_fillI_21_h5 : Nat → ev_M → Int32 → Int32 → Int32 → Option ev_M
  | 0, _, _, _, _ => none
  | n + 1, s, x1, x2, x3 =>
    if x2 < x3 then
      if inb x2 300 = true then
      ltM (wI s 21 (ix x2) x1) fun s1 =>
      (gArr_fillI_21_h5 n) s1 x1 (x2 + cI 1) x3
      else none
    else
      some s
def gArr_fillI_21 (s : ev_M) (a1 : Int32) : Option ev_M :=
  gArr_fillI_21_h5 1048576 s a1 (cI 0) (cI 300)
def gArr_fillI_28_h5 : Nat → ev_M → Int32 → Int32 → Int32 → Option ev_M
  | 0, _, _, _, _ => none
  | n + 1, s, x1, x2, x3 =>
    if x2 < x3 then
      if inb x2 34 = true then
      ltM (wI s 28 (ix x2) x1) fun s1 =>
      (gArr_fillI_28_h5 n) s1 x1 (x2 + cI 1) x3
      else none
    else
      some s
def gArr_fillI_28 (s : ev_M) (a1 : Int32) : Option ev_M :=
  gArr_fillI_28_h5 1048576 s a1 (cI 0) (cI 34)
def gArr_fillI_29_h5 : Nat → ev_M → Int32 → Int32 → Int32 → Option ev_M
  | 0, _, _, _, _ => none
  | n + 1, s, x1, x2, x3 =>
    if x2 < x3 then
      if inb x2 8 = true then
      ltM (wI s 29 (ix x2) x1) fun s1 =>
      (gArr_fillI_29_h5 n) s1 x1 (x2 + cI 1) x3
      else none
    else
      some s
def gArr_fillI_29 (s : ev_M) (a1 : Int32) : Option ev_M :=
  gArr_fillI_29_h5 1048576 s a1 (cI 0) (cI 8)
def gChron_clear (s : ev_M) : Option ev_M :=
  ltM (wI s 15 1 (cI 0)) fun s1 =>
  ltM (wI s1 15 2 (cI 0)) fun s2 =>
  ltM (wI s2 15 7 (cI 0)) fun s3 =>
  bif s3.2.2.2.1 15 4 then
  bd1 (gArr_fillI_20 s3 (cI (-1))) fun s4 =>
  bif s4.2.2.2.1 15 5 then
  bd1 (gArr_fillI_21 s4 (cI (-1))) fun s5 =>
  bif s5.2.2.2.1 15 9 then
  bd1 (gArr_fillI_28 s5 (cI 0)) fun s6 =>
  bif s6.2.2.2.1 15 10 then
  bd1 (gArr_fillI_29 s6 (cI 0)) fun s7 =>
  some s7
  else none
  else none
  else none
  else none
def gChron_init_9 (s : ev_M) : Option ev_M :=
  if s.2.2.1 = 16 then
  ltM (s_make (1 + 3) (3 + 3 * 5000) s) fun s1 =>
  ltM (wF s1 15 3) fun s2 =>
  if s2.2.2.1 = 20 then
  ltM (s_make 1 300 s2) fun s3 =>
  ltM (wF s3 15 4) fun s4 =>
  if s4.2.2.1 = 21 then
  ltM (s_make 1 300 s4) fun s5 =>
  ltM (wF s5 15 5) fun s6 =>
  if s6.2.2.1 = 22 then
  ltM (s_make 1 5000 s6) fun s7 =>
  ltM (wF s7 15 6) fun s8 =>
  if s8.2.2.1 = 23 then
  ltM (s_make (1 + 4) (4 + 4 * 3000) s8) fun s9 =>
  ltM (wF s9 15 8) fun s10 =>
  if s10.2.2.1 = 28 then
  ltM (s_make 1 34 s10) fun s11 =>
  ltM (wF s11 15 9) fun s12 =>
  if s12.2.2.1 = 29 then
  ltM (s_make 1 8 s12) fun s13 =>
  ltM (wF s13 15 10) fun s14 =>
  ltM (wF s14 15 0) fun s15 =>
  bd1 (gChron_clear s15) fun s16 =>
  some s16
  else none
  else none
  else none
  else none
  else none
  else none
  else none
def gBook_init_9_15 (s : ev_M) : Option ev_M :=
  if s.2.2.1 = 31 then
  ltM (s_make 1 12 s) fun s1 =>
  ltM (wF s1 30 3) fun s2 =>
  if s2.2.2.1 = 32 then
  ltM (s_make (1 + 4) (4 + 4 * 30) s2) fun s3 =>
  ltM (wF s3 30 5) fun s4 =>
  if s4.2.2.1 = 37 then
  ltM (s_make 1 30 s4) fun s5 =>
  ltM (wF s5 30 6) fun s6 =>
  if s6.2.2.1 = 38 then
  ltM (s_make (1 + 4) (4 + 4 * 60) s6) fun s7 =>
  ltM (wF s7 30 8) fun s8 =>
  if s8.2.2.1 = 43 then
  ltM (s_make (1 + 2) (2 + 2 * 120) s8) fun s9 =>
  ltM (wF s9 30 10) fun s10 =>
  if s10.2.2.1 = 46 then
  ltM (s_make (1 + 4) (4 + 4 * 60) s10) fun s11 =>
  ltM (wF s11 30 12) fun s12 =>
  if s12.2.2.1 = 51 then
  ltM (s_make 1 120 s12) fun s13 =>
  ltM (wF s13 30 13) fun s14 =>
  ltM (wF s14 30 0) fun s15 =>
  ltM (wF s15 30 1) fun s16 =>
  some s16
  else none
  else none
  else none
  else none
  else none
  else none
  else none
def gSheet_clear (s : ev_M) : Option ev_M :=
  ltM (wI s 52 2 (cI 0)) fun s1 =>
  ltM (wI s1 52 3 (cI (-1))) fun s2 =>
  ltM (wI s2 52 13 (cI 0)) fun s3 =>
  some s3
def gSheet_init_9_30 (s : ev_M) : Option ev_M :=
  if s.2.2.1 = 53 then
  ltM (s_make 1 4096 s) fun s1 =>
  ltM (wF s1 52 6) fun s2 =>
  if s2.2.2.1 = 54 then
  ltM (s_make 1 4096 s2) fun s3 =>
  ltM (wF s3 52 7) fun s4 =>
  if s4.2.2.1 = 55 then
  ltM (s_make (1 + 4) (4 + 4 * 200) s4) fun s5 =>
  ltM (wF s5 52 10) fun s6 =>
  if s6.2.2.1 = 60 then
  ltM (s_make 1 200 s6) fun s7 =>
  ltM (wF s7 52 11) fun s8 =>
  if s8.2.2.1 = 61 then
  ltM (s_make 1 200 s8) fun s9 =>
  ltM (wF s9 52 12) fun s10 =>
  if s10.2.2.1 = 62 then
  ltM (s_make (1 + 4) (4 + 4 * 10) s10) fun s11 =>
  ltM (wF s11 52 14) fun s12 =>
  if s12.2.2.1 = 67 then
  ltM (s_make (1 + 8) (8 + 8 * 200) s12) fun s13 =>
  ltM (wF s13 52 15) fun s14 =>
  if s14.2.2.1 = 76 then
  ltM (s_make 1 10 s14) fun s15 =>
  ltM (wF s15 52 16) fun s16 =>
  if s16.2.2.1 = 77 then
  ltM (s_make 1 11 s16) fun s17 =>
  ltM (wF s17 52 17) fun s18 =>
  ltM (wF s18 52 0) fun s19 =>
  ltM (wF s19 52 1) fun s20 =>
  bd1 (gSheet_clear s20) fun s21 =>
  some s21
  else none
  else none
  else none
  else none
  else none
  else none
  else none
  else none
  else none
def gMoney_init_9_15_30 (s : ev_M) : Option ev_M :=
  if s.2.2.1 = 79 then
  ltM (s_make 1 34 s) fun s1 =>
  ltM (wF s1 78 4) fun s2 =>
  if s2.2.2.1 = 80 then
  ltM (s_make 1 34 s2) fun s3 =>
  ltM (wF s3 78 5) fun s4 =>
  if s4.2.2.1 = 81 then
  ltM (s_make (1 + 4) (4 + 4 * 2000) s4) fun s5 =>
  ltM (wF s5 78 7) fun s6 =>
  if s6.2.2.1 = 86 then
  ltM (s_make (1 + 5) (5 + 5 * 60) s6) fun s7 =>
  ltM (wF s7 78 10) fun s8 =>
  if s8.2.2.1 = 92 then
  ltM (s_make (1 + 3) (3 + 3 * 40) s8) fun s9 =>
  ltM (wF s9 78 12) fun s10 =>
  if s10.2.2.1 = 96 then
  ltM (s_make (1 + 3) (3 + 3 * 40) s10) fun s11 =>
  ltM (wF s11 78 14) fun s12 =>
  ltM (wF s12 78 0) fun s13 =>
  ltM (wF s13 78 1) fun s14 =>
  ltM (wF s14 78 2) fun s15 =>
  some s15
  else none
  else none
  else none
  else none
  else none
  else none
def gItems_init_9_15_30_52_78 (s : ev_M) : Option ev_M :=
  if s.2.2.1 = 101 then
  ltM (s_make (1 + 22) (22 + 22 * 300) s) fun s1 =>
  ltM (wF s1 100 7) fun s2 =>
  if s2.2.2.1 = 124 then
  ltM (s_make 1 300 s2) fun s3 =>
  ltM (wF s3 100 8) fun s4 =>
  ltM (wF s4 100 0) fun s5 =>
  ltM (wF s5 100 1) fun s6 =>
  ltM (wF s6 100 2) fun s7 =>
  ltM (wF s7 100 3) fun s8 =>
  ltM (wF s8 100 4) fun s9 =>
  some s9
  else none
  else none
def gLock_init_9_30_100 (s : ev_M) : Option ev_M :=
  if s.2.2.1 = 126 then
  ltM (s_make 1 8 s) fun s1 =>
  ltM (wF s1 125 4) fun s2 =>
  if s2.2.2.1 = 127 then
  ltM (s_make 1 8 s2) fun s3 =>
  ltM (wF s3 125 5) fun s4 =>
  if s4.2.2.1 = 128 then
  ltM (s_make 1 8 s4) fun s5 =>
  ltM (wF s5 125 6) fun s6 =>
  if s6.2.2.1 = 129 then
  ltM (s_make (1 + 8) (8 + 8 * 10) s6) fun s7 =>
  ltM (wF s7 125 7) fun s8 =>
  ltM (wF s8 125 0) fun s9 =>
  ltM (wF s9 125 1) fun s10 =>
  ltM (wF s10 125 2) fun s11 =>
  some s11
  else none
  else none
  else none
  else none
def gArr_fillI_158_h5 : Nat → ev_M → Int32 → Int32 → Int32 → Option ev_M
  | 0, _, _, _, _ => none
  | n + 1, s, x1, x2, x3 =>
    if x2 < x3 then
      if inb x2 120 = true then
      ltM (wI s 158 (ix x2) x1) fun s1 =>
      (gArr_fillI_158_h5 n) s1 x1 (x2 + cI 1) x3
      else none
    else
      some s
def gArr_fillI_158 (s : ev_M) (a1 : Int32) : Option ev_M :=
  gArr_fillI_158_h5 1048576 s a1 (cI 0) (cI 120)
def gRounds_clear (s : ev_M) : Option ev_M :=
  ltM (wI s 138 3 (cI 0)) fun s1 =>
  ltM (wI s1 138 9 (cI 0)) fun s2 =>
  ltM (wI s2 138 10 (cI 0)) fun s3 =>
  bif s3.2.2.2.1 138 6 then
  bd1 (gArr_fillI_158 s3 (cI (-1))) fun s4 =>
  bif s4.2.2.2.1 138 8 then
  ltM (wI s4 172 (ix (cI 0)) (cI 4)) fun s5 =>
  bif s5.2.2.2.1 138 8 then
  ltM (wI s5 172 (ix (cI 1)) (cI 100)) fun s6 =>
  bif s6.2.2.2.1 138 8 then
  ltM (wI s6 172 (ix (cI 2)) (cI 50)) fun s7 =>
  bif s7.2.2.2.1 138 8 then
  ltM (wI s7 172 (ix (cI 3)) (cI 80)) fun s8 =>
  some s8
  else none
  else none
  else none
  else none
  else none
def gRounds_init_9_30_100 (s : ev_M) : Option ev_M :=
  if s.2.2.1 = 139 then
  ltM (s_make (1 + 5) (5 + 5 * 12) s) fun s1 =>
  ltM (wF s1 138 4) fun s2 =>
  if s2.2.2.1 = 145 then
  ltM (s_make (1 + 12) (12 + 12 * 20) s2) fun s3 =>
  ltM (wF s3 138 5) fun s4 =>
  if s4.2.2.1 = 158 then
  ltM (s_make 1 120 s4) fun s5 =>
  ltM (wF s5 138 6) fun s6 =>
  if s6.2.2.1 = 159 then
  ltM (s_make (1 + 12) (12 + 12 * 300) s6) fun s7 =>
  ltM (wF s7 138 7) fun s8 =>
  if s8.2.2.1 = 172 then
  ltM (s_make 1 4 s8) fun s9 =>
  ltM (wF s9 138 8) fun s10 =>
  if s10.2.2.1 = 173 then
  ltM (s_make 1 300 s10) fun s11 =>
  ltM (wF s11 138 11) fun s12 =>
  if s12.2.2.1 = 174 then
  ltM (s_make 1 300 s12) fun s13 =>
  ltM (wF s13 138 13) fun s14 =>
  if s14.2.2.1 = 175 then
  ltM (s_make 1 300 s14) fun s15 =>
  ltM (wF s15 138 14) fun s16 =>
  if s16.2.2.1 = 176 then
  ltM (s_make (1 + 3) (3 + 3 * 300) s16) fun s17 =>
  ltM (wF s17 138 15) fun s18 =>
  if s18.2.2.1 = 180 then
  ltM (s_make 1 16 s18) fun s19 =>
  ltM (wF s19 138 16) fun s20 =>
  if s20.2.2.1 = 181 then
  ltM (s_make 1 16 s20) fun s21 =>
  ltM (wF s21 138 17) fun s22 =>
  if s22.2.2.1 = 182 then
  ltM (s_make (1 + 9) (9 + 9 * 9) s22) fun s23 =>
  ltM (wF s23 138 18) fun s24 =>
  if s24.2.2.1 = 192 then
  ltM (s_make (1 + 256) (256 + 256 * 8) s24) fun s25 =>
  ltM (wF s25 138 19) fun s26 =>
  ltM (wF s26 138 0) fun s27 =>
  ltM (wF s27 138 1) fun s28 =>
  ltM (wF s28 138 2) fun s29 =>
  bd1 (gRounds_clear s29) fun s30 =>
  some s30
  else none
  else none
  else none
  else none
  else none
  else none
  else none
  else none
  else none
  else none
  else none
  else none
  else none
def gLines_init_9_15_30_100 (s : ev_M) : Option ev_M :=
  if s.2.2.1 = 450 then
  ltM (s_make (1 + 7) (7 + 7 * 20) s) fun s1 =>
  ltM (wF s1 449 5) fun s2 =>
  if s2.2.2.1 = 458 then
  ltM (s_make (1 + 6) (6 + 6 * 80) s2) fun s3 =>
  ltM (wF s3 449 7) fun s4 =>
  if s4.2.2.1 = 465 then
  ltM (s_make (1 + 80) (80 + 80 * 40) s4) fun s5 =>
  ltM (wF s5 449 8) fun s6 =>
  if s6.2.2.1 = 546 then
  ltM (s_make 1 12 s6) fun s7 =>
  ltM (wF s7 449 9) fun s8 =>
  if s8.2.2.1 = 547 then
  ltM (s_make 1 12 s8) fun s9 =>
  ltM (wF s9 449 10) fun s10 =>
  if s10.2.2.1 = 548 then
  ltM (s_make 1 12 s10) fun s11 =>
  ltM (wF s11 449 11) fun s12 =>
  ltM (wF s12 449 0) fun s13 =>
  ltM (wF s13 449 1) fun s14 =>
  ltM (wF s14 449 2) fun s15 =>
  ltM (wF s15 449 3) fun s16 =>
  some s16
  else none
  else none
  else none
  else none
  else none
  else none
def gPH_init (s : ev_M) : Option ev_M :=
  if s.2.2.1 = 1 then
  ltM (s_make 1 6 s) fun s1 =>
  bd1 (gTape_init_1 s1) fun s2 =>
  ltM (wF s2 0 0) fun s3 =>
  if s3.2.2.1 = 4 then
  ltM (s_make 1 6 s3) fun s4 =>
  bd1 (gTape_init_4 s4) fun s5 =>
  ltM (wF s5 0 1) fun s6 =>
  if s6.2.2.1 = 7 then
  ltM (s_make 1 2 s6) fun s7 =>
  bd1 (gBars_init s7) fun s8 =>
  ltM (wF s8 0 2) fun s9 =>
  if s9.2.2.1 = 9 then
  ltM (s_make 1 16 s9) fun s10 =>
  bif s10.2.2.2.1 0 0 then
  bd1 (gLog_init_1 s10) fun s11 =>
  ltM (wF s11 0 3) fun s12 =>
  if s12.2.2.1 = 15 then
  ltM (s_make 1 11 s12) fun s13 =>
  bif s13.2.2.2.1 0 3 then
  bd1 (gChron_init_9 s13) fun s14 =>
  ltM (wF s14 0 4) fun s15 =>
  if s15.2.2.1 = 30 then
  ltM (s_make 1 16 s15) fun s16 =>
  bif s16.2.2.2.1 0 3 then
  bif s16.2.2.2.1 0 4 then
  bd1 (gBook_init_9_15 s16) fun s17 =>
  ltM (wF s17 0 5) fun s18 =>
  if s18.2.2.1 = 52 then
  ltM (s_make 1 18 s18) fun s19 =>
  bif s19.2.2.2.1 0 3 then
  bif s19.2.2.2.1 0 5 then
  bd1 (gSheet_init_9_30 s19) fun s20 =>
  ltM (wF s20 0 6) fun s21 =>
  if s21.2.2.1 = 78 then
  ltM (s_make 1 15 s21) fun s22 =>
  bif s22.2.2.2.1 0 3 then
  bif s22.2.2.2.1 0 4 then
  bif s22.2.2.2.1 0 5 then
  bd1 (gMoney_init_9_15_30 s22) fun s23 =>
  ltM (wF s23 0 7) fun s24 =>
  if s24.2.2.1 = 100 then
  ltM (s_make 1 9 s24) fun s25 =>
  bif s25.2.2.2.1 0 3 then
  bif s25.2.2.2.1 0 4 then
  bif s25.2.2.2.1 0 5 then
  bif s25.2.2.2.1 0 6 then
  bif s25.2.2.2.1 0 7 then
  bd1 (gItems_init_9_15_30_52_78 s25) fun s26 =>
  ltM (wF s26 0 8) fun s27 =>
  if s27.2.2.1 = 125 then
  ltM (s_make 1 8 s27) fun s28 =>
  bif s28.2.2.2.1 0 3 then
  bif s28.2.2.2.1 0 5 then
  bif s28.2.2.2.1 0 8 then
  bd1 (gLock_init_9_30_100 s28) fun s29 =>
  ltM (wF s29 0 9) fun s30 =>
  if s30.2.2.1 = 138 then
  ltM (s_make 1 20 s30) fun s31 =>
  bif s31.2.2.2.1 0 3 then
  bif s31.2.2.2.1 0 5 then
  bif s31.2.2.2.1 0 8 then
  bd1 (gRounds_init_9_30_100 s31) fun s32 =>
  ltM (wF s32 0 10) fun s33 =>
  if s33.2.2.1 = 449 then
  ltM (s_make 1 12 s33) fun s34 =>
  bif s34.2.2.2.1 0 3 then
  bif s34.2.2.2.1 0 4 then
  bif s34.2.2.2.1 0 5 then
  bif s34.2.2.2.1 0 8 then
  bd1 (gLines_init_9_15_30_100 s34) fun s35 =>
  ltM (wF s35 0 11) fun s36 =>
  some s36
  else none
  else none
  else none
  else none
  else none
  else none
  else none
  else none
  else none
  else none
  else none
  else none
  else none
  else none
  else none
  else none
  else none
  else none
  else none
  else none
  else none
  else none
  else none
  else none
  else none
  else none
  else none
  else none
  else none
  else none
  else none
  else none
  else none
  else none
  else none
  else none
def gM_times_b43 (s : ev_M) (k4 : Int32 → Int32 → Int32 → Int32 → Option Int32) (x0 : Int32) (x1 : Int32) (x3 : Int32) (y0 : Int32) : Option Int32 :=
  k4 x0 x1 y0 (x3 + cI (-1))
def gM_times_b26 (s : ev_M) (k4 : Int32 → Int32 → Int32 → Int32 → Option Int32) (x0 : Int32) (x1 : Int32) (x3 : Int32) (y0 : Int32) : Option Int32 :=
  if ((x1 >>> (x3 &&& 31)) &&& (cI 1)) = (cI 1) then
    gM_times_b43 s k4 x0 x1 x3 (y0 ^^^ x0)
  else
    gM_times_b43 s k4 x0 x1 x3 y0
def gM_times_h4 (s : ev_M) : Nat → Int32 → Int32 → Int32 → Int32 → Option Int32
  | 0, _, _, _, _ => none
  | n + 1, x0, x1, x2, x3 =>
    if x3 < 0 then
      some x2
    else
      ltI (x2 <<< ((cI 1) &&& 31)) fun v1 =>
      if v1 ≤ (cI 15) then
        gM_times_b26 s (gM_times_h4 s n) x0 x1 x3 v1
      else
        gM_times_b26 s (gM_times_h4 s n) x0 x1 x3 (v1 ^^^ (cI 19))
def gM_times (s : ev_M) (a0 : Int32) (a1 : Int32) : Option Int32 :=
  gM_times_h4 s 1048576 a0 a1 (cI 0) (cI 3)
def gM_power_h4 (s : ev_M) : Nat → Int32 → Int32 → Int32 → Int32 → Option Int32
  | 0, _, _, _, _ => none
  | n + 1, x0, x1, x2, x3 =>
    if x3 < x1 then
      bd1 (gM_times s x2 x0) fun v1 =>
      (gM_power_h4 s n) x0 x1 v1 (x3 + cI 1)
    else
      some x2
def gM_power (s : ev_M) (a0 : Int32) (a1 : Int32) : Option Int32 :=
  gM_power_h4 s 1048576 a0 a1 (cI 1) (cI 0)
def gM_empty_h162 : Nat → ev_M → Int32 → Option ev_M
  | 0, _, _ => none
  | n + 1, s, x1 =>
    if x1 < (cI 8) then
      bif s.2.2.2.1 549 138 then
      if inb x1 8 = true then
      ltM (wI s 647 (ix x1) (cI 0)) fun s1 =>
      (gM_empty_h162 n) s1 (x1 + cI 1)
      else none
      else none
    else
      some s
def gM_empty_h140 : Nat → ev_M → Int32 → Option ev_M
  | 0, _, _ => none
  | n + 1, s, x1 =>
    if x1 < (cI 300) then
      bif s.2.2.2.1 549 92 then
      if inb x1 300 = true then
      ltM (wI s 610 (ix x1) ((cI 0) &&& 1)) fun s2 =>
      (gM_empty_h140 n) s2 (x1 + cI 1)
      else none
      else none
    else
      gM_empty_h162 1048576 s (cI 0)
def gM_empty (s : ev_M) : Option ev_M :=
  ltM (wI s 549 22 (cI 0)) fun s3 =>
  ltM (wI s3 549 23 (cI 0)) fun s4 =>
  ltM (wI s4 549 24 (cI 0)) fun s5 =>
  ltM (wI s5 549 27 (cI 0)) fun s6 =>
  ltM (wI s6 549 33 (cI 0)) fun s7 =>
  ltM (wI s7 549 38 (cI 0)) fun s8 =>
  ltM (wI s8 549 43 (cI 0)) fun s9 =>
  ltM (wI s9 549 48 (cI 0)) fun s10 =>
  ltM (wI s10 549 49 (cI 0)) fun s11 =>
  ltM (wI s11 549 50 (cI (-1))) fun s12 =>
  ltM (wI s12 549 51 (cI 0)) fun s13 =>
  ltM (wI s13 549 58 (cI 0)) fun s14 =>
  ltM (wI s14 549 83 (cI 4)) fun s15 =>
  ltM (wI s15 549 84 (cI 100)) fun s16 =>
  ltM (wI s16 549 85 (cI 50)) fun s17 =>
  ltM (wI s17 549 86 (cI 80)) fun s18 =>
  ltM (wI s18 549 87 (cI 0)) fun s19 =>
  ltM (wI s19 549 91 (cI 0)) fun s20 =>
  ltM (wI s20 549 93 (cI 0)) fun s21 =>
  ltM (wI s21 549 101 (cI 0)) fun s22 =>
  ltM (wI s22 549 107 (cI 0)) fun s23 =>
  ltM (wI s23 549 111 (cI 0)) fun s24 =>
  ltM (wI s24 549 114 (cI 0)) fun s25 =>
  ltM (wI s25 549 119 (cI 0)) fun s26 =>
  ltM (wI s26 549 125 (cI 0)) fun s27 =>
  ltM (wI s27 549 129 (cI 0)) fun s28 =>
  ltM (wI s28 549 134 (cI 0)) fun s29 =>
  gM_empty_h140 1048576 s29 (cI 0)
def gM_init_h1384 : Nat → ev_M → Int32 → Option ev_M
  | 0, _, _ => none
  | n + 1, s, x1 =>
    if x1 < (cI 60) then
      bif s.2.2.2.1 549 160 then
      bif s.2.2.2.1 549 158 then
      if (cI 15) = 0 then none else
      if inb (x1 / (cI 15)) 4 = true then
      if (cI 15) = 0 then none else
      bd1 (gM_power s (s.1 661 (ix (x1 / (cI 15)))) ((cI 14) - (irem x1 (cI 15)))) fun v1 =>
      if inb x1 60 = true then
      ltM (wI s 663 (ix x1) v1) fun s2 =>
      (gM_init_h1384 n) s2 (x1 + cI 1)
      else none
      else none
      else none
      else none
    else
      bd1 (gM_empty s) fun s3 =>
      some s3
set_option maxRecDepth 20000 in
def gM_init (s : ev_M) : Option ev_M :=
  if s.2.2.1 = 550 then
  ltM (s_make 1 4096 s) fun s4 =>
  ltM (wF s4 549 1) fun s5 =>
  if s5.2.2.1 = 551 then
  ltM (s_make 1 38656 s5) fun s6 =>
  ltM (wF s6 549 3) fun s7 =>
  ltM (wI s7 549 6 (cI (-1))) fun s8 =>
  if s8.2.2.1 = 552 then
  ltM (s_make 1 37200 s8) fun s9 =>
  ltM (wF s9 549 8) fun s10 =>
  if s10.2.2.1 = 553 then
  ltM (s_make 1 6 s10) fun s11 =>
  ltM (wF s11 549 11) fun s12 =>
  if s12.2.2.1 = 554 then
  ltM (s_make 1 4096 s12) fun s13 =>
  ltM (wF s13 549 12) fun s14 =>
  if s14.2.2.1 = 555 then
  ltM (s_make 1 151 s14) fun s15 =>
  ltM (wF s15 549 17) fun s16 =>
  if s16.2.2.1 = 556 then
  ltM (s_make 1 256 s16) fun s17 =>
  ltM (wF s17 549 18) fun s18 =>
  if s18.2.2.1 = 557 then
  ltM (s_make 1 37200 s18) fun s19 =>
  ltM (wF s19 549 19) fun s20 =>
  if s20.2.2.1 = 558 then
  ltM (s_make 1 12 s20) fun s21 =>
  ltM (wF s21 549 25) fun s22 =>
  if s22.2.2.1 = 559 then
  ltM (s_make 1 12 s22) fun s23 =>
  ltM (wF s23 549 26) fun s24 =>
  if s24.2.2.1 = 560 then
  ltM (s_make 1 30 s24) fun s25 =>
  ltM (wF s25 549 28) fun s26 =>
  if s26.2.2.1 = 561 then
  ltM (s_make 1 30 s26) fun s27 =>
  ltM (wF s27 549 29) fun s28 =>
  if s28.2.2.1 = 562 then
  ltM (s_make 1 30 s28) fun s29 =>
  ltM (wF s29 549 30) fun s30 =>
  if s30.2.2.1 = 563 then
  ltM (s_make 1 30 s30) fun s31 =>
  ltM (wF s31 549 31) fun s32 =>
  if s32.2.2.1 = 564 then
  ltM (s_make 1 30 s32) fun s33 =>
  ltM (wF s33 549 32) fun s34 =>
  if s34.2.2.1 = 565 then
  ltM (s_make 1 60 s34) fun s35 =>
  ltM (wF s35 549 34) fun s36 =>
  if s36.2.2.1 = 566 then
  ltM (s_make 1 60 s36) fun s37 =>
  ltM (wF s37 549 35) fun s38 =>
  if s38.2.2.1 = 567 then
  ltM (s_make 1 60 s38) fun s39 =>
  ltM (wF s39 549 36) fun s40 =>
  if s40.2.2.1 = 568 then
  ltM (s_make 1 60 s40) fun s41 =>
  ltM (wF s41 549 37) fun s42 =>
  if s42.2.2.1 = 569 then
  ltM (s_make 1 120 s42) fun s43 =>
  ltM (wF s43 549 39) fun s44 =>
  if s44.2.2.1 = 570 then
  ltM (s_make 1 120 s44) fun s45 =>
  ltM (wF s45 549 40) fun s46 =>
  if s46.2.2.1 = 571 then
  ltM (s_make 1 120 s46) fun s47 =>
  ltM (wF s47 549 41) fun s48 =>
  if s48.2.2.1 = 572 then
  ltM (s_make 1 120 s48) fun s49 =>
  ltM (wF s49 549 42) fun s50 =>
  if s50.2.2.1 = 573 then
  ltM (s_make 1 60 s50) fun s51 =>
  ltM (wF s51 549 44) fun s52 =>
  if s52.2.2.1 = 574 then
  ltM (s_make 1 60 s52) fun s53 =>
  ltM (wF s53 549 45) fun s54 =>
  if s54.2.2.1 = 575 then
  ltM (s_make 1 60 s54) fun s55 =>
  ltM (wF s55 549 46) fun s56 =>
  if s56.2.2.1 = 576 then
  ltM (s_make 1 60 s56) fun s57 =>
  ltM (wF s57 549 47) fun s58 =>
  if s58.2.2.1 = 577 then
  ltM (s_make 1 11 s58) fun s59 =>
  ltM (wF s59 549 52) fun s60 =>
  if s60.2.2.1 = 578 then
  ltM (s_make 1 200 s60) fun s61 =>
  ltM (wF s61 549 53) fun s62 =>
  if s62.2.2.1 = 579 then
  ltM (s_make 1 200 s62) fun s63 =>
  ltM (wF s63 549 54) fun s64 =>
  if s64.2.2.1 = 580 then
  ltM (s_make 1 200 s64) fun s65 =>
  ltM (wF s65 549 55) fun s66 =>
  if s66.2.2.1 = 581 then
  ltM (s_make 1 200 s66) fun s67 =>
  ltM (wF s67 549 56) fun s68 =>
  if s68.2.2.1 = 582 then
  ltM (s_make 1 200 s68) fun s69 =>
  ltM (wF s69 549 57) fun s70 =>
  if s70.2.2.1 = 583 then
  ltM (s_make 1 300 s70) fun s71 =>
  ltM (wF s71 549 59) fun s72 =>
  if s72.2.2.1 = 584 then
  ltM (s_make 1 300 s72) fun s73 =>
  ltM (wF s73 549 60) fun s74 =>
  if s74.2.2.1 = 585 then
  ltM (s_make 1 300 s74) fun s75 =>
  ltM (wF s75 549 61) fun s76 =>
  if s76.2.2.1 = 586 then
  ltM (s_make 1 300 s76) fun s77 =>
  ltM (wF s77 549 62) fun s78 =>
  if s78.2.2.1 = 587 then
  ltM (s_make 1 300 s78) fun s79 =>
  ltM (wF s79 549 63) fun s80 =>
  if s80.2.2.1 = 588 then
  ltM (s_make 1 300 s80) fun s81 =>
  ltM (wF s81 549 64) fun s82 =>
  if s82.2.2.1 = 589 then
  ltM (s_make 1 300 s82) fun s83 =>
  ltM (wF s83 549 65) fun s84 =>
  if s84.2.2.1 = 590 then
  ltM (s_make 1 300 s84) fun s85 =>
  ltM (wF s85 549 66) fun s86 =>
  if s86.2.2.1 = 591 then
  ltM (s_make 1 300 s86) fun s87 =>
  ltM (wF s87 549 67) fun s88 =>
  if s88.2.2.1 = 592 then
  ltM (s_make 1 300 s88) fun s89 =>
  ltM (wF s89 549 68) fun s90 =>
  if s90.2.2.1 = 593 then
  ltM (s_make 1 300 s90) fun s91 =>
  ltM (wF s91 549 69) fun s92 =>
  if s92.2.2.1 = 594 then
  ltM (s_make 1 300 s92) fun s93 =>
  ltM (wF s93 549 70) fun s94 =>
  if s94.2.2.1 = 595 then
  ltM (s_make 1 300 s94) fun s95 =>
  ltM (wF s95 549 71) fun s96 =>
  if s96.2.2.1 = 596 then
  ltM (s_make 1 300 s96) fun s97 =>
  ltM (wF s97 549 72) fun s98 =>
  if s98.2.2.1 = 597 then
  ltM (s_make 1 300 s98) fun s99 =>
  ltM (wF s99 549 73) fun s100 =>
  if s100.2.2.1 = 598 then
  ltM (s_make 1 300 s100) fun s101 =>
  ltM (wF s101 549 74) fun s102 =>
  if s102.2.2.1 = 599 then
  ltM (s_make 1 300 s102) fun s103 =>
  ltM (wF s103 549 75) fun s104 =>
  if s104.2.2.1 = 600 then
  ltM (s_make 1 300 s104) fun s105 =>
  ltM (wF s105 549 76) fun s106 =>
  if s106.2.2.1 = 601 then
  ltM (s_make 1 300 s106) fun s107 =>
  ltM (wF s107 549 77) fun s108 =>
  if s108.2.2.1 = 602 then
  ltM (s_make 1 300 s108) fun s109 =>
  ltM (wF s109 549 78) fun s110 =>
  if s110.2.2.1 = 603 then
  ltM (s_make 1 300 s110) fun s111 =>
  ltM (wF s111 549 79) fun s112 =>
  if s112.2.2.1 = 604 then
  ltM (s_make 1 300 s112) fun s113 =>
  ltM (wF s113 549 80) fun s114 =>
  if s114.2.2.1 = 605 then
  ltM (s_make 1 900 s114) fun s115 =>
  ltM (wF s115 549 81) fun s116 =>
  if s116.2.2.1 = 606 then
  ltM (s_make 1 900 s116) fun s117 =>
  ltM (wF s117 549 82) fun s118 =>
  if s118.2.2.1 = 607 then
  ltM (s_make 1 12 s118) fun s119 =>
  ltM (wF s119 549 88) fun s120 =>
  if s120.2.2.1 = 608 then
  ltM (s_make 1 12 s120) fun s121 =>
  ltM (wF s121 549 89) fun s122 =>
  if s122.2.2.1 = 609 then
  ltM (s_make 1 12 s122) fun s123 =>
  ltM (wF s123 549 90) fun s124 =>
  if s124.2.2.1 = 610 then
  ltM (s_make 1 300 s124) fun s125 =>
  ltM (wF s125 549 92) fun s126 =>
  if s126.2.2.1 = 611 then
  ltM (s_make 1 20 s126) fun s127 =>
  ltM (wF s127 549 94) fun s128 =>
  if s128.2.2.1 = 612 then
  ltM (s_make 1 20 s128) fun s129 =>
  ltM (wF s129 549 95) fun s130 =>
  if s130.2.2.1 = 613 then
  ltM (s_make 1 20 s130) fun s131 =>
  ltM (wF s131 549 96) fun s132 =>
  if s132.2.2.1 = 614 then
  ltM (s_make 1 20 s132) fun s133 =>
  ltM (wF s133 549 97) fun s134 =>
  if s134.2.2.1 = 615 then
  ltM (s_make 1 20 s134) fun s135 =>
  ltM (wF s135 549 98) fun s136 =>
  if s136.2.2.1 = 616 then
  ltM (s_make 1 20 s136) fun s137 =>
  ltM (wF s137 549 99) fun s138 =>
  if s138.2.2.1 = 617 then
  ltM (s_make 1 20 s138) fun s139 =>
  ltM (wF s139 549 100) fun s140 =>
  if s140.2.2.1 = 618 then
  ltM (s_make 1 80 s140) fun s141 =>
  ltM (wF s141 549 102) fun s142 =>
  if s142.2.2.1 = 619 then
  ltM (s_make 1 80 s142) fun s143 =>
  ltM (wF s143 549 103) fun s144 =>
  if s144.2.2.1 = 620 then
  ltM (s_make 1 80 s144) fun s145 =>
  ltM (wF s145 549 104) fun s146 =>
  if s146.2.2.1 = 621 then
  ltM (s_make 1 80 s146) fun s147 =>
  ltM (wF s147 549 105) fun s148 =>
  if s148.2.2.1 = 622 then
  ltM (s_make 1 80 s148) fun s149 =>
  ltM (wF s149 549 106) fun s150 =>
  if s150.2.2.1 = 623 then
  ltM (s_make 1 8 s150) fun s151 =>
  ltM (wF s151 549 108) fun s152 =>
  if s152.2.2.1 = 624 then
  ltM (s_make 1 8 s152) fun s153 =>
  ltM (wF s153 549 109) fun s154 =>
  if s154.2.2.1 = 625 then
  ltM (s_make 1 8 s154) fun s155 =>
  ltM (wF s155 549 110) fun s156 =>
  if s156.2.2.1 = 626 then
  ltM (s_make 1 30 s156) fun s157 =>
  ltM (wF s157 549 112) fun s158 =>
  if s158.2.2.1 = 627 then
  ltM (s_make 1 30 s158) fun s159 =>
  ltM (wF s159 549 113) fun s160 =>
  if s160.2.2.1 = 628 then
  ltM (s_make 1 2000 s160) fun s161 =>
  ltM (wF s161 549 115) fun s162 =>
  if s162.2.2.1 = 629 then
  ltM (s_make 1 2000 s162) fun s163 =>
  ltM (wF s163 549 116) fun s164 =>
  if s164.2.2.1 = 630 then
  ltM (s_make 1 2000 s164) fun s165 =>
  ltM (wF s165 549 117) fun s166 =>
  if s166.2.2.1 = 631 then
  ltM (s_make 1 2000 s166) fun s167 =>
  ltM (wF s167 549 118) fun s168 =>
  if s168.2.2.1 = 632 then
  ltM (s_make 1 60 s168) fun s169 =>
  ltM (wF s169 549 120) fun s170 =>
  if s170.2.2.1 = 633 then
  ltM (s_make 1 60 s170) fun s171 =>
  ltM (wF s171 549 121) fun s172 =>
  if s172.2.2.1 = 634 then
  ltM (s_make 1 60 s172) fun s173 =>
  ltM (wF s173 549 122) fun s174 =>
  if s174.2.2.1 = 635 then
  ltM (s_make 1 60 s174) fun s175 =>
  ltM (wF s175 549 123) fun s176 =>
  if s176.2.2.1 = 636 then
  ltM (s_make 1 60 s176) fun s177 =>
  ltM (wF s177 549 124) fun s178 =>
  if s178.2.2.1 = 637 then
  ltM (s_make 1 40 s178) fun s179 =>
  ltM (wF s179 549 126) fun s180 =>
  if s180.2.2.1 = 638 then
  ltM (s_make 1 40 s180) fun s181 =>
  ltM (wF s181 549 127) fun s182 =>
  if s182.2.2.1 = 639 then
  ltM (s_make 1 40 s182) fun s183 =>
  ltM (wF s183 549 128) fun s184 =>
  if s184.2.2.1 = 640 then
  ltM (s_make 1 5000 s184) fun s185 =>
  ltM (wF s185 549 130) fun s186 =>
  if s186.2.2.1 = 641 then
  ltM (s_make 1 5000 s186) fun s187 =>
  ltM (wF s187 549 131) fun s188 =>
  if s188.2.2.1 = 642 then
  ltM (s_make 1 5000 s188) fun s189 =>
  ltM (wF s189 549 132) fun s190 =>
  if s190.2.2.1 = 643 then
  ltM (s_make 1 5000 s190) fun s191 =>
  ltM (wF s191 549 133) fun s192 =>
  if s192.2.2.1 = 644 then
  ltM (s_make 1 3000 s192) fun s193 =>
  ltM (wF s193 549 135) fun s194 =>
  if s194.2.2.1 = 645 then
  ltM (s_make 1 3000 s194) fun s195 =>
  ltM (wF s195 549 136) fun s196 =>
  if s196.2.2.1 = 646 then
  ltM (s_make 1 3000 s196) fun s197 =>
  ltM (wF s197 549 137) fun s198 =>
  if s198.2.2.1 = 647 then
  ltM (s_make 1 8 s198) fun s199 =>
  ltM (wF s199 549 138) fun s200 =>
  if s200.2.2.1 = 648 then
  ltM (s_make 1 120 s200) fun s201 =>
  ltM (wF s201 549 142) fun s202 =>
  if s202.2.2.1 = 649 then
  ltM (s_make 1 4096 s202) fun s203 =>
  ltM (wF s203 549 143) fun s204 =>
  if s204.2.2.1 = 650 then
  ltM (s_make 1 4096 s204) fun s205 =>
  ltM (wF s205 549 144) fun s206 =>
  if s206.2.2.1 = 651 then
  ltM (s_make 1 4096 s206) fun s207 =>
  ltM (wF s207 549 145) fun s208 =>
  if s208.2.2.1 = 652 then
  ltM (s_make 1 200 s208) fun s209 =>
  ltM (wF s209 549 147) fun s210 =>
  if s210.2.2.1 = 653 then
  ltM (s_make 1 200 s210) fun s211 =>
  ltM (wF s211 549 148) fun s212 =>
  if s212.2.2.1 = 654 then
  ltM (s_make 1 200 s212) fun s213 =>
  ltM (wF s213 549 149) fun s214 =>
  if s214.2.2.1 = 655 then
  ltM (s_make 1 200 s214) fun s215 =>
  ltM (wF s215 549 150) fun s216 =>
  if s216.2.2.1 = 656 then
  ltM (s_make 1 200 s216) fun s217 =>
  ltM (wF s217 549 151) fun s218 =>
  if s218.2.2.1 = 657 then
  ltM (s_make 1 36 s218) fun s219 =>
  ltM (wI s219 657 (ix (cI 0)) (cI 31599)) fun s220 =>
  ltM (wI s220 657 (ix (cI 1)) (cI 11415)) fun s221 =>
  ltM (wI s221 657 (ix (cI 2)) (cI 29671)) fun s222 =>
  ltM (wI s222 657 (ix (cI 3)) (cI 29647)) fun s223 =>
  ltM (wI s223 657 (ix (cI 4)) (cI 23497)) fun s224 =>
  ltM (wI s224 657 (ix (cI 5)) (cI 31183)) fun s225 =>
  ltM (wI s225 657 (ix (cI 6)) (cI 31215)) fun s226 =>
  ltM (wI s226 657 (ix (cI 7)) (cI 29266)) fun s227 =>
  ltM (wI s227 657 (ix (cI 8)) (cI 31727)) fun s228 =>
  ltM (wI s228 657 (ix (cI 9)) (cI 31695)) fun s229 =>
  ltM (wI s229 657 (ix (cI 10)) (cI 11245)) fun s230 =>
  ltM (wI s230 657 (ix (cI 11)) (cI 27566)) fun s231 =>
  ltM (wI s231 657 (ix (cI 12)) (cI 14627)) fun s232 =>
  ltM (wI s232 657 (ix (cI 13)) (cI 27502)) fun s233 =>
  ltM (wI s233 657 (ix (cI 14)) (cI 31143)) fun s234 =>
  ltM (wI s234 657 (ix (cI 15)) (cI 31140)) fun s235 =>
  ltM (wI s235 657 (ix (cI 16)) (cI 14699)) fun s236 =>
  ltM (wI s236 657 (ix (cI 17)) (cI 23533)) fun s237 =>
  ltM (wI s237 657 (ix (cI 18)) (cI 29847)) fun s238 =>
  ltM (wI s238 657 (ix (cI 19)) (cI 4714)) fun s239 =>
  ltM (wI s239 657 (ix (cI 20)) (cI 23469)) fun s240 =>
  ltM (wI s240 657 (ix (cI 21)) (cI 18727)) fun s241 =>
  ltM (wI s241 657 (ix (cI 22)) (cI 24557)) fun s242 =>
  ltM (wI s242 657 (ix (cI 23)) (cI 31597)) fun s243 =>
  ltM (wI s243 657 (ix (cI 24)) (cI 11114)) fun s244 =>
  ltM (wI s244 657 (ix (cI 25)) (cI 27556)) fun s245 =>
  ltM (wI s245 657 (ix (cI 26)) (cI 11123)) fun s246 =>
  ltM (wI s246 657 (ix (cI 27)) (cI 27565)) fun s247 =>
  ltM (wI s247 657 (ix (cI 28)) (cI 14478)) fun s248 =>
  ltM (wI s248 657 (ix (cI 29)) (cI 29842)) fun s249 =>
  ltM (wI s249 657 (ix (cI 30)) (cI 23407)) fun s250 =>
  ltM (wI s250 657 (ix (cI 31)) (cI 23402)) fun s251 =>
  ltM (wI s251 657 (ix (cI 32)) (cI 23549)) fun s252 =>
  ltM (wI s252 657 (ix (cI 33)) (cI 23213)) fun s253 =>
  ltM (wI s253 657 (ix (cI 34)) (cI 23186)) fun s254 =>
  ltM (wI s254 657 (ix (cI 35)) (cI 29351)) fun s255 =>
  ltM (wF s255 549 154) fun s256 =>
  if s256.2.2.1 = 658 then
  ltM (s_make 1 10 s256) fun s257 =>
  ltM (wF s257 549 155) fun s258 =>
  if s258.2.2.1 = 659 then
  ltM (s_make 1 11 s258) fun s259 =>
  ltM (wF s259 549 156) fun s260 =>
  if s260.2.2.1 = 660 then
  ltM (s_make 1 15 s260) fun s261 =>
  ltM (wF s261 549 157) fun s262 =>
  if s262.2.2.1 = 661 then
  ltM (s_make 1 4 s262) fun s263 =>
  ltM (wI s263 661 (ix (cI 0)) (cI 2)) fun s264 =>
  ltM (wI s264 661 (ix (cI 1)) (cI 4)) fun s265 =>
  ltM (wI s265 661 (ix (cI 2)) (cI 8)) fun s266 =>
  ltM (wI s266 661 (ix (cI 3)) (cI 3)) fun s267 =>
  ltM (wF s267 549 158) fun s268 =>
  if s268.2.2.1 = 662 then
  ltM (s_make 1 4 s268) fun s269 =>
  ltM (wF s269 549 159) fun s270 =>
  if s270.2.2.1 = 663 then
  ltM (s_make 1 60 s270) fun s271 =>
  ltM (wF s271 549 160) fun s272 =>
  ltM (wI s272 549 161 (cI (-1))) fun s273 =>
  if s273.2.2.1 = 664 then
  ltM (s_make 1 21 s273) fun s274 =>
  ltM (wF s274 549 162) fun s275 =>
  if s275.2.2.1 = 665 then
  ltM (s_make 1 21 s275) fun s276 =>
  ltM (wF s276 549 163) fun s277 =>
  if s277.2.2.1 = 666 then
  ltM (s_make 1 21 s277) fun s278 =>
  ltM (wF s278 549 164) fun s279 =>
  if s279.2.2.1 = 667 then
  ltM (s_make 1 2048 s279) fun s280 =>
  ltM (wF s280 549 165) fun s281 =>
  if s281.2.2.1 = 668 then
  ltM (s_make 1 300 s281) fun s282 =>
  ltM (wF s282 549 167) fun s283 =>
  if s283.2.2.1 = 669 then
  ltM (s_make 1 300 s283) fun s284 =>
  ltM (wF s284 549 168) fun s285 =>
  if s285.2.2.1 = 670 then
  ltM (s_make 1 300 s285) fun s286 =>
  ltM (wF s286 549 169) fun s287 =>
  if s287.2.2.1 = 671 then
  ltM (s_make 1 300 s287) fun s288 =>
  ltM (wF s288 549 170) fun s289 =>
  if s289.2.2.1 = 672 then
  ltM (s_make 1 300 s289) fun s290 =>
  ltM (wF s290 549 171) fun s291 =>
  if s291.2.2.1 = 673 then
  ltM (s_make 1 16 s291) fun s292 =>
  ltM (wF s292 549 172) fun s293 =>
  if s293.2.2.1 = 674 then
  ltM (s_make 1 16 s293) fun s294 =>
  ltM (wF s294 549 173) fun s295 =>
  if s295.2.2.1 = 675 then
  ltM (s_make 1 12 s295) fun s296 =>
  ltM (wF s296 549 174) fun s297 =>
  if s297.2.2.1 = 676 then
  ltM (s_make 1 12 s297) fun s298 =>
  ltM (wF s298 549 175) fun s299 =>
  if s299.2.2.1 = 677 then
  ltM (s_make 1 12 s299) fun s300 =>
  ltM (wF s300 549 176) fun s301 =>
  if s301.2.2.1 = 678 then
  ltM (s_make 1 40 s301) fun s302 =>
  ltM (wF s302 549 177) fun s303 =>
  if s303.2.2.1 = 679 then
  ltM (s_make 1 40 s303) fun s304 =>
  ltM (wF s304 549 178) fun s305 =>
  if s305.2.2.1 = 680 then
  ltM (s_make 1 40 s305) fun s306 =>
  ltM (wF s306 549 179) fun s307 =>
  gM_init_h1384 1048576 s307 (cI 0)
  else none
  else none
  else none
  else none
  else none
  else none
  else none
  else none
  else none
  else none
  else none
  else none
  else none
  else none
  else none
  else none
  else none
  else none
  else none
  else none
  else none
  else none
  else none
  else none
  else none
  else none
  else none
  else none
  else none
  else none
  else none
  else none
  else none
  else none
  else none
  else none
  else none
  else none
  else none
  else none
  else none
  else none
  else none
  else none
  else none
  else none
  else none
  else none
  else none
  else none
  else none
  else none
  else none
  else none
  else none
  else none
  else none
  else none
  else none
  else none
  else none
  else none
  else none
  else none
  else none
  else none
  else none
  else none
  else none
  else none
  else none
  else none
  else none
  else none
  else none
  else none
  else none
  else none
  else none
  else none
  else none
  else none
  else none
  else none
  else none
  else none
  else none
  else none
  else none
  else none
  else none
  else none
  else none
  else none
  else none
  else none
  else none
  else none
  else none
  else none
  else none
  else none
  else none
  else none
  else none
  else none
  else none
  else none
  else none
  else none
  else none
  else none
  else none
  else none
  else none
  else none
  else none
  else none
  else none
  else none
  else none
  else none
  else none
  else none
  else none
  else none
  else none
  else none
  else none
  else none
  else none
theorem Tc_gTape_init_1 {s : ev_M} {q : ev_M} (h : gTape_init_1 s = some q) : RC 221 0 [oR 1 0] [] s (cvV q) := by
  refine rc_gd h fun hn h => ?_
  refine rg_step 4 (G' := fun f => evC f 221 8 [oR 1 0] [vI (cI 4096), vR 1 0] s) (fun _ => rfl) ?_
  refine rg_step 1 (G' := fun f => evC f 221 10 [oR 1 0] [vR 2 0, vR 1 0] (s_make 1 4096 s)) (fun f => cv_newa (f := f) (M := 221) (pc := 8) (a := .byte) (r := 2) hn rfl rfl rfl) (rc_ltM h fun s1 h => ?_)
  refine rg_step 1 (G' := fun f => evC f 221 13 [oR 1 0] [] (wF s1 1 0)) (fun _ => rfl) (rc_ltM h fun s2 h => ?_)
  refine rc_gd h fun hn h => ?_
  refine rg_step 2 (G' := fun f => evC f 221 15 [oR 1 0] [vI (cI 4), vR 1 0] s2) (fun _ => rfl) ?_
  refine rg_step 1 (G' := fun f => evC f 221 17 [oR 1 0] [vR 3 0, vR 1 0] (s_make 1 4 s2)) (fun f => cv_newa (f := f) (M := 221) (pc := 15) (a := .int) (r := 1) hn rfl rfl rfl) (rc_ltM h fun s3 h => ?_)
  refine rg_step 1 (G' := fun f => evC f 221 20 [oR 1 0] [] (wF s3 1 3)) (fun _ => rfl) (rc_ltM h fun s4 h => ?_)
  exact rg_end 1 (fun _ => rfl) (by cases h; rfl)
theorem Tc_gTape_init_4 {s : ev_M} {q : ev_M} (h : gTape_init_4 s = some q) : RC 221 0 [oR 4 0] [] s (cvV q) := by
  refine rc_gd h fun hn h => ?_
  refine rg_step 4 (G' := fun f => evC f 221 8 [oR 4 0] [vI (cI 4096), vR 4 0] s) (fun _ => rfl) ?_
  refine rg_step 1 (G' := fun f => evC f 221 10 [oR 4 0] [vR 5 0, vR 4 0] (s_make 1 4096 s)) (fun f => cv_newa (f := f) (M := 221) (pc := 8) (a := .byte) (r := 2) hn rfl rfl rfl) (rc_ltM h fun s1 h => ?_)
  refine rg_step 1 (G' := fun f => evC f 221 13 [oR 4 0] [] (wF s1 4 0)) (fun _ => rfl) (rc_ltM h fun s2 h => ?_)
  refine rc_gd h fun hn h => ?_
  refine rg_step 2 (G' := fun f => evC f 221 15 [oR 4 0] [vI (cI 4), vR 4 0] s2) (fun _ => rfl) ?_
  refine rg_step 1 (G' := fun f => evC f 221 17 [oR 4 0] [vR 6 0, vR 4 0] (s_make 1 4 s2)) (fun f => cv_newa (f := f) (M := 221) (pc := 15) (a := .int) (r := 1) hn rfl rfl rfl) (rc_ltM h fun s3 h => ?_)
  refine rg_step 1 (G' := fun f => evC f 221 20 [oR 4 0] [] (wF s3 4 3)) (fun _ => rfl) (rc_ltM h fun s4 h => ?_)
  exact rg_end 1 (fun _ => rfl) (by cases h; rfl)
theorem Tc_gBars_init {s : ev_M} {q : ev_M} (h : gBars_init s = some q) : RC 0 0 [oR 7 0] [] s (cvV q) := by
  refine rc_gd h fun hn h => ?_
  refine rg_step 4 (G' := fun f => evC f 0 7 [oR 7 0] [vI (cI 15), vR 7 0] s) (fun _ => rfl) ?_
  refine rg_step 1 (G' := fun f => evC f 0 9 [oR 7 0] [vR 8 0, vR 7 0] (s_make 1 15 s)) (fun f => cv_newa (f := f) (M := 0) (pc := 7) (a := .int) (r := 1) hn rfl rfl rfl) (rc_ltM h fun s1 h => ?_)
  refine rg_step 1 (G' := fun f => evC f 0 12 [oR 7 0] [] (wF s1 7 0)) (fun _ => rfl) (rc_ltM h fun s2 h => ?_)
  refine rg_step 3 (G' := fun f => evC f 0 17 [oR 7 0] [] (wI s2 7 1 (cI (-1)))) (fun _ => rfl) (rc_ltM h fun s3 h => ?_)
  exact rg_end 1 (fun _ => rfl) (by cases h; rfl)
theorem Tc_gLog_init_1 {s : ev_M} {q : ev_M} (h : gLog_init_1 s = some q) : RC 121 0 [oR 9 0, oR 1 0] [] s (cvV q) := by
  refine rc_gd h fun hn h => ?_
  refine rg_step 4 (G' := fun f => evC f 121 7 [oR 9 0, oR 1 0] [vI (cI 38400), vR 9 0] s) (fun _ => rfl) ?_
  refine rg_step 1 (G' := fun f => evC f 121 9 [oR 9 0, oR 1 0] [vR 10 0, vR 9 0] (s_make 1 38400 s)) (fun f => cv_newa (f := f) (M := 121) (pc := 7) (a := .byte) (r := 2) hn rfl rfl rfl) (rc_ltM h fun s1 h => ?_)
  refine rg_step 1 (G' := fun f => evC f 121 12 [oR 9 0, oR 1 0] [] (wF s1 9 1)) (fun _ => rfl) (rc_ltM h fun s2 h => ?_)
  refine rc_gd h fun hn h => ?_
  refine rg_step 2 (G' := fun f => evC f 121 16 [oR 9 0, oR 1 0] [vI (cI 150), vR 9 0] s2) (fun _ => rfl) ?_
  refine rg_step 1 (G' := fun f => evC f 121 18 [oR 9 0, oR 1 0] [vR 11 0, vR 9 0] (s_make 1 150 s2)) (fun f => cv_newa (f := f) (M := 121) (pc := 16) (a := .boolean) (r := 3) hn rfl rfl rfl) (rc_ltM h fun s3 h => ?_)
  refine rg_step 1 (G' := fun f => evC f 121 21 [oR 9 0, oR 1 0] [] (wF s3 9 2)) (fun _ => rfl) (rc_ltM h fun s4 h => ?_)
  refine rc_gd h fun hn h => ?_
  refine rg_step 2 (G' := fun f => evC f 121 25 [oR 9 0, oR 1 0] [vI (cI 256), vR 9 0] s4) (fun _ => rfl) ?_
  refine rg_step 1 (G' := fun f => evC f 121 27 [oR 9 0, oR 1 0] [vR 12 0, vR 9 0] (s_make 1 256 s4)) (fun f => cv_newa (f := f) (M := 121) (pc := 25) (a := .byte) (r := 2) hn rfl rfl rfl) (rc_ltM h fun s5 h => ?_)
  refine rg_step 1 (G' := fun f => evC f 121 30 [oR 9 0, oR 1 0] [] (wF s5 9 3)) (fun _ => rfl) (rc_ltM h fun s6 h => ?_)
  refine rc_gd h fun hn h => ?_
  refine rg_step 2 (G' := fun f => evC f 121 33 [oR 9 0, oR 1 0] [vI (cI 37200), vR 9 0] s6) (fun _ => rfl) ?_
  refine rg_step 1 (G' := fun f => evC f 121 35 [oR 9 0, oR 1 0] [vR 13 0, vR 9 0] (s_make 1 37200 s6)) (fun f => cv_newa (f := f) (M := 121) (pc := 33) (a := .byte) (r := 2) hn rfl rfl rfl) (rc_ltM h fun s7 h => ?_)
  refine rg_step 1 (G' := fun f => evC f 121 38 [oR 9 0, oR 1 0] [] (wF s7 9 5)) (fun _ => rfl) (rc_ltM h fun s8 h => ?_)
  refine rg_step 3 (G' := fun f => evC f 121 43 [oR 9 0, oR 1 0] [] (wI s8 9 10 (cI (-1)))) (fun _ => rfl) (rc_ltM h fun s9 h => ?_)
  refine rc_gd h fun hn h => ?_
  refine rg_step 2 (G' := fun f => evC f 121 46 [oR 9 0, oR 1 0] [vI (cI 6), vR 9 0] s9) (fun _ => rfl) ?_
  refine rg_step 1 (G' := fun f => evC f 121 48 [oR 9 0, oR 1 0] [vR 14 0, vR 9 0] (s_make 1 6 s9)) (fun f => cv_newa (f := f) (M := 121) (pc := 46) (a := .int) (r := 1) hn rfl rfl rfl) (rc_ltM h fun s10 h => ?_)
  refine rg_step 1 (G' := fun f => evC f 121 51 [oR 9 0, oR 1 0] [] (wF s10 9 15)) (fun _ => rfl) (rc_ltM h fun s11 h => ?_)
  refine rg_step 3 (G' := fun f => evC f 121 56 [oR 9 0, oR 1 0] [] (wF s11 9 0)) (fun _ => rfl) (rc_ltM h fun s12 h => ?_)
  exact rg_end 1 (fun _ => rfl) (by cases h; rfl)
theorem tci_gArr_fillI_20_h5 : ∀ (n : Nat) (s : ev_M) (x1 : Int32) (x2 : Int32) (x3 : Int32) (q : ev_M), gArr_fillI_20_h5 n s x1 x2 x3 = some q → RC 537 5 [oR 20 0, oI x1, oI x2, oI x3] [] s (cvV q) := by
  intro n
  induction n with
  | zero => intro s x1 x2 x3 q h; cases h
  | succ n ih =>
    have hk5 : ∀ {s : ev_M} {x1 : Int32} {x2 : Int32} {x3 : Int32} {q : ev_M}, gArr_fillI_20_h5 n s x1 x2 x3 = some q → RC 537 5 [oR 20 0, oI x1, oI x2, oI x3] [] s (cvV q) := fun h => ih _ _ _ _ _ h
    intro s x1 x2 x3 q h
    refine rg_step 3 (G' := fun f => if x2 < x3 then evC f 537 10 [oR 20 0, oI x1, oI x2, oI x3] [] s else evC f 537 20 [oR 20 0, oI x1, oI x2, oI x3] [] s) (fun _ => rfl) (rg_if h (fun h => ?_) fun h => ?_)
    · refine rg_step 4 (G' := fun f => if inb x2 300 = true then evC f 537 14 [oR 20 0, oI x1, oI x2, oI x3] [] (wI s 20 (ix x2) x1) else none) (fun _ => rfl) (rg_gd h fun h => rc_ltM h fun s1 h => ?_)
      exact rg_step 2 (G' := fun f => evC f 537 5 [oR 20 0, oI x1, oI (x2 + cI 1), oI x3] [] s1) (fun _ => rfl) (hk5 h)
    · exact rg_end 1 (fun _ => rfl) (by cases h; rfl)
theorem tc_gArr_fillI_20_h5 {n : Nat} {s : ev_M} {x1 : Int32} {x2 : Int32} {x3 : Int32} {q : ev_M} (h : gArr_fillI_20_h5 n s x1 x2 x3 = some q) : RC 537 5 [oR 20 0, oI x1, oI x2, oI x3] [] s (cvV q) := tci_gArr_fillI_20_h5 n s x1 x2 x3 q h
theorem Tc_gArr_fillI_20 {s : ev_M} {a1 : Int32} {q : ev_M} (h : gArr_fillI_20 s a1 = some q) : RC 537 0 [oR 20 0, oI a1, nn, nn] [] s (cvV q) := by
  exact rg_step 5 (G' := fun f => evC f 537 5 [oR 20 0, oI a1, oI (cI 0), oI (cI 300)] [] s) (fun _ => rfl) ((tc_gArr_fillI_20_h5) h)
theorem tci_gArr_fillI_21_h5 : ∀ (n : Nat) (s : ev_M) (x1 : Int32) (x2 : Int32) (x3 : Int32) (q : ev_M), gArr_fillI_21_h5 n s x1 x2 x3 = some q → RC 537 5 [oR 21 0, oI x1, oI x2, oI x3] [] s (cvV q) := by
  intro n
  induction n with
  | zero => intro s x1 x2 x3 q h; cases h
  | succ n ih =>
    have hk5 : ∀ {s : ev_M} {x1 : Int32} {x2 : Int32} {x3 : Int32} {q : ev_M}, gArr_fillI_21_h5 n s x1 x2 x3 = some q → RC 537 5 [oR 21 0, oI x1, oI x2, oI x3] [] s (cvV q) := fun h => ih _ _ _ _ _ h
    intro s x1 x2 x3 q h
    refine rg_step 3 (G' := fun f => if x2 < x3 then evC f 537 10 [oR 21 0, oI x1, oI x2, oI x3] [] s else evC f 537 20 [oR 21 0, oI x1, oI x2, oI x3] [] s) (fun _ => rfl) (rg_if h (fun h => ?_) fun h => ?_)
    · refine rg_step 4 (G' := fun f => if inb x2 300 = true then evC f 537 14 [oR 21 0, oI x1, oI x2, oI x3] [] (wI s 21 (ix x2) x1) else none) (fun _ => rfl) (rg_gd h fun h => rc_ltM h fun s1 h => ?_)
      exact rg_step 2 (G' := fun f => evC f 537 5 [oR 21 0, oI x1, oI (x2 + cI 1), oI x3] [] s1) (fun _ => rfl) (hk5 h)
    · exact rg_end 1 (fun _ => rfl) (by cases h; rfl)
theorem tc_gArr_fillI_21_h5 {n : Nat} {s : ev_M} {x1 : Int32} {x2 : Int32} {x3 : Int32} {q : ev_M} (h : gArr_fillI_21_h5 n s x1 x2 x3 = some q) : RC 537 5 [oR 21 0, oI x1, oI x2, oI x3] [] s (cvV q) := tci_gArr_fillI_21_h5 n s x1 x2 x3 q h
theorem Tc_gArr_fillI_21 {s : ev_M} {a1 : Int32} {q : ev_M} (h : gArr_fillI_21 s a1 = some q) : RC 537 0 [oR 21 0, oI a1, nn, nn] [] s (cvV q) := by
  exact rg_step 5 (G' := fun f => evC f 537 5 [oR 21 0, oI a1, oI (cI 0), oI (cI 300)] [] s) (fun _ => rfl) ((tc_gArr_fillI_21_h5) h)
theorem tci_gArr_fillI_28_h5 : ∀ (n : Nat) (s : ev_M) (x1 : Int32) (x2 : Int32) (x3 : Int32) (q : ev_M), gArr_fillI_28_h5 n s x1 x2 x3 = some q → RC 537 5 [oR 28 0, oI x1, oI x2, oI x3] [] s (cvV q) := by
  intro n
  induction n with
  | zero => intro s x1 x2 x3 q h; cases h
  | succ n ih =>
    have hk5 : ∀ {s : ev_M} {x1 : Int32} {x2 : Int32} {x3 : Int32} {q : ev_M}, gArr_fillI_28_h5 n s x1 x2 x3 = some q → RC 537 5 [oR 28 0, oI x1, oI x2, oI x3] [] s (cvV q) := fun h => ih _ _ _ _ _ h
    intro s x1 x2 x3 q h
    refine rg_step 3 (G' := fun f => if x2 < x3 then evC f 537 10 [oR 28 0, oI x1, oI x2, oI x3] [] s else evC f 537 20 [oR 28 0, oI x1, oI x2, oI x3] [] s) (fun _ => rfl) (rg_if h (fun h => ?_) fun h => ?_)
    · refine rg_step 4 (G' := fun f => if inb x2 34 = true then evC f 537 14 [oR 28 0, oI x1, oI x2, oI x3] [] (wI s 28 (ix x2) x1) else none) (fun _ => rfl) (rg_gd h fun h => rc_ltM h fun s1 h => ?_)
      exact rg_step 2 (G' := fun f => evC f 537 5 [oR 28 0, oI x1, oI (x2 + cI 1), oI x3] [] s1) (fun _ => rfl) (hk5 h)
    · exact rg_end 1 (fun _ => rfl) (by cases h; rfl)
theorem tc_gArr_fillI_28_h5 {n : Nat} {s : ev_M} {x1 : Int32} {x2 : Int32} {x3 : Int32} {q : ev_M} (h : gArr_fillI_28_h5 n s x1 x2 x3 = some q) : RC 537 5 [oR 28 0, oI x1, oI x2, oI x3] [] s (cvV q) := tci_gArr_fillI_28_h5 n s x1 x2 x3 q h
theorem Tc_gArr_fillI_28 {s : ev_M} {a1 : Int32} {q : ev_M} (h : gArr_fillI_28 s a1 = some q) : RC 537 0 [oR 28 0, oI a1, nn, nn] [] s (cvV q) := by
  exact rg_step 5 (G' := fun f => evC f 537 5 [oR 28 0, oI a1, oI (cI 0), oI (cI 34)] [] s) (fun _ => rfl) ((tc_gArr_fillI_28_h5) h)
theorem tci_gArr_fillI_29_h5 : ∀ (n : Nat) (s : ev_M) (x1 : Int32) (x2 : Int32) (x3 : Int32) (q : ev_M), gArr_fillI_29_h5 n s x1 x2 x3 = some q → RC 537 5 [oR 29 0, oI x1, oI x2, oI x3] [] s (cvV q) := by
  intro n
  induction n with
  | zero => intro s x1 x2 x3 q h; cases h
  | succ n ih =>
    have hk5 : ∀ {s : ev_M} {x1 : Int32} {x2 : Int32} {x3 : Int32} {q : ev_M}, gArr_fillI_29_h5 n s x1 x2 x3 = some q → RC 537 5 [oR 29 0, oI x1, oI x2, oI x3] [] s (cvV q) := fun h => ih _ _ _ _ _ h
    intro s x1 x2 x3 q h
    refine rg_step 3 (G' := fun f => if x2 < x3 then evC f 537 10 [oR 29 0, oI x1, oI x2, oI x3] [] s else evC f 537 20 [oR 29 0, oI x1, oI x2, oI x3] [] s) (fun _ => rfl) (rg_if h (fun h => ?_) fun h => ?_)
    · refine rg_step 4 (G' := fun f => if inb x2 8 = true then evC f 537 14 [oR 29 0, oI x1, oI x2, oI x3] [] (wI s 29 (ix x2) x1) else none) (fun _ => rfl) (rg_gd h fun h => rc_ltM h fun s1 h => ?_)
      exact rg_step 2 (G' := fun f => evC f 537 5 [oR 29 0, oI x1, oI (x2 + cI 1), oI x3] [] s1) (fun _ => rfl) (hk5 h)
    · exact rg_end 1 (fun _ => rfl) (by cases h; rfl)
theorem tc_gArr_fillI_29_h5 {n : Nat} {s : ev_M} {x1 : Int32} {x2 : Int32} {x3 : Int32} {q : ev_M} (h : gArr_fillI_29_h5 n s x1 x2 x3 = some q) : RC 537 5 [oR 29 0, oI x1, oI x2, oI x3] [] s (cvV q) := tci_gArr_fillI_29_h5 n s x1 x2 x3 q h
theorem Tc_gArr_fillI_29 {s : ev_M} {a1 : Int32} {q : ev_M} (h : gArr_fillI_29 s a1 = some q) : RC 537 0 [oR 29 0, oI a1, nn, nn] [] s (cvV q) := by
  exact rg_step 5 (G' := fun f => evC f 537 5 [oR 29 0, oI a1, oI (cI 0), oI (cI 8)] [] s) (fun _ => rfl) ((tc_gArr_fillI_29_h5) h)
theorem Tc_gChron_clear {s : ev_M} {q : ev_M} (h : gChron_clear s = some q) : RC 40 0 [oR 15 0] [] s (cvV q) := by
  refine rg_step 3 (G' := fun f => evC f 40 5 [oR 15 0] [] (wI s 15 1 (cI 0))) (fun _ => rfl) (rc_ltM h fun s1 h => ?_)
  refine rg_step 3 (G' := fun f => evC f 40 10 [oR 15 0] [] (wI s1 15 2 (cI 0))) (fun _ => rfl) (rc_ltM h fun s2 h => ?_)
  refine rg_step 3 (G' := fun f => evC f 40 15 [oR 15 0] [] (wI s2 15 7 (cI 0))) (fun _ => rfl) (rc_ltM h fun s3 h => ?_)
  refine rg_step 2 (G' := fun f => bif s3.2.2.2.1 15 4 then evC f 40 19 [oR 15 0] [vR 20 0] s3 else none) (fun _ => rfl) (rc_bf h fun h => ?_)
  refine rg_step 2 (G' := fun f => ev_after (evC f 537 0 [oR 20 0, oI (cI (-1)), nn, nn] [] s3) (fun q => evC f 40 23 [oR 15 0] (q.2 ++ []) q.1)) (fun _ => rfl) (rg_bd1 h fun s4 hc h => rg_call (q := cvV s4) (Tc_gArr_fillI_20 hc) ?_)
  refine rg_step 2 (G' := fun f => bif s4.2.2.2.1 15 5 then evC f 40 27 [oR 15 0] [vR 21 0] s4 else none) (fun _ => rfl) (rc_bf h fun h => ?_)
  refine rg_step 2 (G' := fun f => ev_after (evC f 537 0 [oR 21 0, oI (cI (-1)), nn, nn] [] s4) (fun q => evC f 40 31 [oR 15 0] (q.2 ++ []) q.1)) (fun _ => rfl) (rg_bd1 h fun s5 hc h => rg_call (q := cvV s5) (Tc_gArr_fillI_21 hc) ?_)
  refine rg_step 2 (G' := fun f => bif s5.2.2.2.1 15 9 then evC f 40 35 [oR 15 0] [vR 28 0] s5 else none) (fun _ => rfl) (rc_bf h fun h => ?_)
  refine rg_step 2 (G' := fun f => ev_after (evC f 537 0 [oR 28 0, oI (cI 0), nn, nn] [] s5) (fun q => evC f 40 39 [oR 15 0] (q.2 ++ []) q.1)) (fun _ => rfl) (rg_bd1 h fun s6 hc h => rg_call (q := cvV s6) (Tc_gArr_fillI_28 hc) ?_)
  refine rg_step 2 (G' := fun f => bif s6.2.2.2.1 15 10 then evC f 40 43 [oR 15 0] [vR 29 0] s6 else none) (fun _ => rfl) (rc_bf h fun h => ?_)
  refine rg_step 2 (G' := fun f => ev_after (evC f 537 0 [oR 29 0, oI (cI 0), nn, nn] [] s6) (fun q => evC f 40 47 [oR 15 0] (q.2 ++ []) q.1)) (fun _ => rfl) (rg_bd1 h fun s7 hc h => rg_call (q := cvV s7) (Tc_gArr_fillI_29 hc) ?_)
  exact rg_end 1 (fun _ => rfl) (by cases h; rfl)
theorem Tc_gChron_init_9 {s : ev_M} {q : ev_M} (h : gChron_init_9 s = some q) : RC 39 0 [oR 15 0, oR 9 0] [] s (cvV q) := by
  refine rc_gd h fun hn h => ?_
  refine rg_step 5 (G' := fun f => evC f 39 9 [oR 15 0, oR 9 0] [vI (cI 5000), vI (cI 3), vR 15 0] s) (fun _ => rfl) ?_
  refine rg_step 1 (G' := fun f => evC f 39 13 [oR 15 0, oR 9 0] [vR 16 0, vR 15 0] (s_make (1 + 3) (3 + 3 * 5000) s)) (fun f => cv_newm (f := f) (M := 39) (pc := 9) (idx := 11) (r := 0) hn rfl rfl rfl) (rc_ltM h fun s1 h => ?_)
  refine rg_step 1 (G' := fun f => evC f 39 16 [oR 15 0, oR 9 0] [] (wF s1 15 3)) (fun _ => rfl) (rc_ltM h fun s2 h => ?_)
  refine rc_gd h fun hn h => ?_
  refine rg_step 2 (G' := fun f => evC f 39 20 [oR 15 0, oR 9 0] [vI (cI 300), vR 15 0] s2) (fun _ => rfl) ?_
  refine rg_step 1 (G' := fun f => evC f 39 22 [oR 15 0, oR 9 0] [vR 20 0, vR 15 0] (s_make 1 300 s2)) (fun f => cv_newa (f := f) (M := 39) (pc := 20) (a := .int) (r := 1) hn rfl rfl rfl) (rc_ltM h fun s3 h => ?_)
  refine rg_step 1 (G' := fun f => evC f 39 25 [oR 15 0, oR 9 0] [] (wF s3 15 4)) (fun _ => rfl) (rc_ltM h fun s4 h => ?_)
  refine rc_gd h fun hn h => ?_
  refine rg_step 2 (G' := fun f => evC f 39 29 [oR 15 0, oR 9 0] [vI (cI 300), vR 15 0] s4) (fun _ => rfl) ?_
  refine rg_step 1 (G' := fun f => evC f 39 31 [oR 15 0, oR 9 0] [vR 21 0, vR 15 0] (s_make 1 300 s4)) (fun f => cv_newa (f := f) (M := 39) (pc := 29) (a := .int) (r := 1) hn rfl rfl rfl) (rc_ltM h fun s5 h => ?_)
  refine rg_step 1 (G' := fun f => evC f 39 34 [oR 15 0, oR 9 0] [] (wF s5 15 5)) (fun _ => rfl) (rc_ltM h fun s6 h => ?_)
  refine rc_gd h fun hn h => ?_
  refine rg_step 2 (G' := fun f => evC f 39 38 [oR 15 0, oR 9 0] [vI (cI 5000), vR 15 0] s6) (fun _ => rfl) ?_
  refine rg_step 1 (G' := fun f => evC f 39 40 [oR 15 0, oR 9 0] [vR 22 0, vR 15 0] (s_make 1 5000 s6)) (fun f => cv_newa (f := f) (M := 39) (pc := 38) (a := .int) (r := 1) hn rfl rfl rfl) (rc_ltM h fun s7 h => ?_)
  refine rg_step 1 (G' := fun f => evC f 39 43 [oR 15 0, oR 9 0] [] (wF s7 15 6)) (fun _ => rfl) (rc_ltM h fun s8 h => ?_)
  refine rc_gd h fun hn h => ?_
  refine rg_step 3 (G' := fun f => evC f 39 48 [oR 15 0, oR 9 0] [vI (cI 3000), vI (cI 4), vR 15 0] s8) (fun _ => rfl) ?_
  refine rg_step 1 (G' := fun f => evC f 39 52 [oR 15 0, oR 9 0] [vR 23 0, vR 15 0] (s_make (1 + 4) (4 + 4 * 3000) s8)) (fun f => cv_newm (f := f) (M := 39) (pc := 48) (idx := 11) (r := 0) hn rfl rfl rfl) (rc_ltM h fun s9 h => ?_)
  refine rg_step 1 (G' := fun f => evC f 39 55 [oR 15 0, oR 9 0] [] (wF s9 15 8)) (fun _ => rfl) (rc_ltM h fun s10 h => ?_)
  refine rc_gd h fun hn h => ?_
  refine rg_step 2 (G' := fun f => evC f 39 58 [oR 15 0, oR 9 0] [vI (cI 34), vR 15 0] s10) (fun _ => rfl) ?_
  refine rg_step 1 (G' := fun f => evC f 39 60 [oR 15 0, oR 9 0] [vR 28 0, vR 15 0] (s_make 1 34 s10)) (fun f => cv_newa (f := f) (M := 39) (pc := 58) (a := .int) (r := 1) hn rfl rfl rfl) (rc_ltM h fun s11 h => ?_)
  refine rg_step 1 (G' := fun f => evC f 39 63 [oR 15 0, oR 9 0] [] (wF s11 15 9)) (fun _ => rfl) (rc_ltM h fun s12 h => ?_)
  refine rc_gd h fun hn h => ?_
  refine rg_step 2 (G' := fun f => evC f 39 66 [oR 15 0, oR 9 0] [vI (cI 8), vR 15 0] s12) (fun _ => rfl) ?_
  refine rg_step 1 (G' := fun f => evC f 39 68 [oR 15 0, oR 9 0] [vR 29 0, vR 15 0] (s_make 1 8 s12)) (fun f => cv_newa (f := f) (M := 39) (pc := 66) (a := .int) (r := 1) hn rfl rfl rfl) (rc_ltM h fun s13 h => ?_)
  refine rg_step 1 (G' := fun f => evC f 39 71 [oR 15 0, oR 9 0] [] (wF s13 15 10)) (fun _ => rfl) (rc_ltM h fun s14 h => ?_)
  refine rg_step 3 (G' := fun f => evC f 39 76 [oR 15 0, oR 9 0] [] (wF s14 15 0)) (fun _ => rfl) (rc_ltM h fun s15 h => ?_)
  refine rg_step 2 (G' := fun f => ev_after (evC f 40 0 [oR 15 0] [] s15) (fun q => evC f 39 80 [oR 15 0, oR 9 0] (q.2 ++ []) q.1)) (fun _ => rfl) (rg_bd1 h fun s16 hc h => rg_call (q := cvV s16) (Tc_gChron_clear hc) ?_)
  exact rg_end 1 (fun _ => rfl) (by cases h; rfl)
theorem Tc_gBook_init_9_15 {s : ev_M} {q : ev_M} (h : gBook_init_9_15 s = some q) : RC 10 0 [oR 30 0, oR 9 0, oR 15 0] [] s (cvV q) := by
  refine rc_gd h fun hn h => ?_
  refine rg_step 4 (G' := fun f => evC f 10 7 [oR 30 0, oR 9 0, oR 15 0] [vI (cI 12), vR 30 0] s) (fun _ => rfl) ?_
  refine rg_step 1 (G' := fun f => evC f 10 9 [oR 30 0, oR 9 0, oR 15 0] [vR 31 0, vR 30 0] (s_make 1 12 s)) (fun f => cv_newa (f := f) (M := 10) (pc := 7) (a := .int) (r := 1) hn rfl rfl rfl) (rc_ltM h fun s1 h => ?_)
  refine rg_step 1 (G' := fun f => evC f 10 12 [oR 30 0, oR 9 0, oR 15 0] [] (wF s1 30 3)) (fun _ => rfl) (rc_ltM h fun s2 h => ?_)
  refine rc_gd h fun hn h => ?_
  refine rg_step 3 (G' := fun f => evC f 10 16 [oR 30 0, oR 9 0, oR 15 0] [vI (cI 30), vI (cI 4), vR 30 0] s2) (fun _ => rfl) ?_
  refine rg_step 1 (G' := fun f => evC f 10 20 [oR 30 0, oR 9 0, oR 15 0] [vR 32 0, vR 30 0] (s_make (1 + 4) (4 + 4 * 30) s2)) (fun f => cv_newm (f := f) (M := 10) (pc := 16) (idx := 15) (r := 0) hn rfl rfl rfl) (rc_ltM h fun s3 h => ?_)
  refine rg_step 1 (G' := fun f => evC f 10 23 [oR 30 0, oR 9 0, oR 15 0] [] (wF s3 30 5)) (fun _ => rfl) (rc_ltM h fun s4 h => ?_)
  refine rc_gd h fun hn h => ?_
  refine rg_step 2 (G' := fun f => evC f 10 26 [oR 30 0, oR 9 0, oR 15 0] [vI (cI 30), vR 30 0] s4) (fun _ => rfl) ?_
  refine rg_step 1 (G' := fun f => evC f 10 28 [oR 30 0, oR 9 0, oR 15 0] [vR 37 0, vR 30 0] (s_make 1 30 s4)) (fun f => cv_newa (f := f) (M := 10) (pc := 26) (a := .long) (r := 4) hn rfl rfl rfl) (rc_ltM h fun s5 h => ?_)
  refine rg_step 1 (G' := fun f => evC f 10 31 [oR 30 0, oR 9 0, oR 15 0] [] (wF s5 30 6)) (fun _ => rfl) (rc_ltM h fun s6 h => ?_)
  refine rc_gd h fun hn h => ?_
  refine rg_step 3 (G' := fun f => evC f 10 35 [oR 30 0, oR 9 0, oR 15 0] [vI (cI 60), vI (cI 4), vR 30 0] s6) (fun _ => rfl) ?_
  refine rg_step 1 (G' := fun f => evC f 10 39 [oR 30 0, oR 9 0, oR 15 0] [vR 38 0, vR 30 0] (s_make (1 + 4) (4 + 4 * 60) s6)) (fun f => cv_newm (f := f) (M := 10) (pc := 35) (idx := 15) (r := 0) hn rfl rfl rfl) (rc_ltM h fun s7 h => ?_)
  refine rg_step 1 (G' := fun f => evC f 10 42 [oR 30 0, oR 9 0, oR 15 0] [] (wF s7 30 8)) (fun _ => rfl) (rc_ltM h fun s8 h => ?_)
  refine rc_gd h fun hn h => ?_
  refine rg_step 3 (G' := fun f => evC f 10 46 [oR 30 0, oR 9 0, oR 15 0] [vI (cI 120), vI (cI 2), vR 30 0] s8) (fun _ => rfl) ?_
  refine rg_step 1 (G' := fun f => evC f 10 50 [oR 30 0, oR 9 0, oR 15 0] [vR 43 0, vR 30 0] (s_make (1 + 2) (2 + 2 * 120) s8)) (fun f => cv_newm (f := f) (M := 10) (pc := 46) (idx := 15) (r := 0) hn rfl rfl rfl) (rc_ltM h fun s9 h => ?_)
  refine rg_step 1 (G' := fun f => evC f 10 53 [oR 30 0, oR 9 0, oR 15 0] [] (wF s9 30 10)) (fun _ => rfl) (rc_ltM h fun s10 h => ?_)
  refine rc_gd h fun hn h => ?_
  refine rg_step 3 (G' := fun f => evC f 10 57 [oR 30 0, oR 9 0, oR 15 0] [vI (cI 60), vI (cI 4), vR 30 0] s10) (fun _ => rfl) ?_
  refine rg_step 1 (G' := fun f => evC f 10 61 [oR 30 0, oR 9 0, oR 15 0] [vR 46 0, vR 30 0] (s_make (1 + 4) (4 + 4 * 60) s10)) (fun f => cv_newm (f := f) (M := 10) (pc := 57) (idx := 15) (r := 0) hn rfl rfl rfl) (rc_ltM h fun s11 h => ?_)
  refine rg_step 1 (G' := fun f => evC f 10 64 [oR 30 0, oR 9 0, oR 15 0] [] (wF s11 30 12)) (fun _ => rfl) (rc_ltM h fun s12 h => ?_)
  refine rc_gd h fun hn h => ?_
  refine rg_step 2 (G' := fun f => evC f 10 67 [oR 30 0, oR 9 0, oR 15 0] [vI (cI 120), vR 30 0] s12) (fun _ => rfl) ?_
  refine rg_step 1 (G' := fun f => evC f 10 69 [oR 30 0, oR 9 0, oR 15 0] [vR 51 0, vR 30 0] (s_make 1 120 s12)) (fun f => cv_newa (f := f) (M := 10) (pc := 67) (a := .int) (r := 1) hn rfl rfl rfl) (rc_ltM h fun s13 h => ?_)
  refine rg_step 1 (G' := fun f => evC f 10 72 [oR 30 0, oR 9 0, oR 15 0] [] (wF s13 30 13)) (fun _ => rfl) (rc_ltM h fun s14 h => ?_)
  refine rg_step 3 (G' := fun f => evC f 10 77 [oR 30 0, oR 9 0, oR 15 0] [] (wF s14 30 0)) (fun _ => rfl) (rc_ltM h fun s15 h => ?_)
  refine rg_step 3 (G' := fun f => evC f 10 82 [oR 30 0, oR 9 0, oR 15 0] [] (wF s15 30 1)) (fun _ => rfl) (rc_ltM h fun s16 h => ?_)
  exact rg_end 1 (fun _ => rfl) (by cases h; rfl)
theorem Tc_gSheet_clear {s : ev_M} {q : ev_M} (h : gSheet_clear s = some q) : RC 196 0 [oR 52 0] [] s (cvV q) := by
  refine rg_step 3 (G' := fun f => evC f 196 5 [oR 52 0] [] (wI s 52 2 (cI 0))) (fun _ => rfl) (rc_ltM h fun s1 h => ?_)
  refine rg_step 3 (G' := fun f => evC f 196 10 [oR 52 0] [] (wI s1 52 3 (cI (-1)))) (fun _ => rfl) (rc_ltM h fun s2 h => ?_)
  refine rg_step 3 (G' := fun f => evC f 196 15 [oR 52 0] [] (wI s2 52 13 (cI 0))) (fun _ => rfl) (rc_ltM h fun s3 h => ?_)
  exact rg_end 1 (fun _ => rfl) (by cases h; rfl)
theorem Tc_gSheet_init_9_30 {s : ev_M} {q : ev_M} (h : gSheet_init_9_30 s = some q) : RC 195 0 [oR 52 0, oR 9 0, oR 30 0] [] s (cvV q) := by
  refine rc_gd h fun hn h => ?_
  refine rg_step 4 (G' := fun f => evC f 195 8 [oR 52 0, oR 9 0, oR 30 0] [vI (cI 4096), vR 52 0] s) (fun _ => rfl) ?_
  refine rg_step 1 (G' := fun f => evC f 195 10 [oR 52 0, oR 9 0, oR 30 0] [vR 53 0, vR 52 0] (s_make 1 4096 s)) (fun f => cv_newa (f := f) (M := 195) (pc := 8) (a := .byte) (r := 2) hn rfl rfl rfl) (rc_ltM h fun s1 h => ?_)
  refine rg_step 1 (G' := fun f => evC f 195 13 [oR 52 0, oR 9 0, oR 30 0] [] (wF s1 52 6)) (fun _ => rfl) (rc_ltM h fun s2 h => ?_)
  refine rc_gd h fun hn h => ?_
  refine rg_step 2 (G' := fun f => evC f 195 17 [oR 52 0, oR 9 0, oR 30 0] [vI (cI 4096), vR 52 0] s2) (fun _ => rfl) ?_
  refine rg_step 1 (G' := fun f => evC f 195 19 [oR 52 0, oR 9 0, oR 30 0] [vR 54 0, vR 52 0] (s_make 1 4096 s2)) (fun f => cv_newa (f := f) (M := 195) (pc := 17) (a := .int) (r := 1) hn rfl rfl rfl) (rc_ltM h fun s3 h => ?_)
  refine rg_step 1 (G' := fun f => evC f 195 22 [oR 52 0, oR 9 0, oR 30 0] [] (wF s3 52 7)) (fun _ => rfl) (rc_ltM h fun s4 h => ?_)
  refine rc_gd h fun hn h => ?_
  refine rg_step 3 (G' := fun f => evC f 195 27 [oR 52 0, oR 9 0, oR 30 0] [vI (cI 200), vI (cI 4), vR 52 0] s4) (fun _ => rfl) ?_
  refine rg_step 1 (G' := fun f => evC f 195 31 [oR 52 0, oR 9 0, oR 30 0] [vR 55 0, vR 52 0] (s_make (1 + 4) (4 + 4 * 200) s4)) (fun f => cv_newm (f := f) (M := 195) (pc := 27) (idx := 21) (r := 0) hn rfl rfl rfl) (rc_ltM h fun s5 h => ?_)
  refine rg_step 1 (G' := fun f => evC f 195 34 [oR 52 0, oR 9 0, oR 30 0] [] (wF s5 52 10)) (fun _ => rfl) (rc_ltM h fun s6 h => ?_)
  refine rc_gd h fun hn h => ?_
  refine rg_step 2 (G' := fun f => evC f 195 38 [oR 52 0, oR 9 0, oR 30 0] [vI (cI 200), vR 52 0] s6) (fun _ => rfl) ?_
  refine rg_step 1 (G' := fun f => evC f 195 40 [oR 52 0, oR 9 0, oR 30 0] [vR 60 0, vR 52 0] (s_make 1 200 s6)) (fun f => cv_newa (f := f) (M := 195) (pc := 38) (a := .int) (r := 1) hn rfl rfl rfl) (rc_ltM h fun s7 h => ?_)
  refine rg_step 1 (G' := fun f => evC f 195 43 [oR 52 0, oR 9 0, oR 30 0] [] (wF s7 52 11)) (fun _ => rfl) (rc_ltM h fun s8 h => ?_)
  refine rc_gd h fun hn h => ?_
  refine rg_step 2 (G' := fun f => evC f 195 47 [oR 52 0, oR 9 0, oR 30 0] [vI (cI 200), vR 52 0] s8) (fun _ => rfl) ?_
  refine rg_step 1 (G' := fun f => evC f 195 49 [oR 52 0, oR 9 0, oR 30 0] [vR 61 0, vR 52 0] (s_make 1 200 s8)) (fun f => cv_newa (f := f) (M := 195) (pc := 47) (a := .int) (r := 1) hn rfl rfl rfl) (rc_ltM h fun s9 h => ?_)
  refine rg_step 1 (G' := fun f => evC f 195 52 [oR 52 0, oR 9 0, oR 30 0] [] (wF s9 52 12)) (fun _ => rfl) (rc_ltM h fun s10 h => ?_)
  refine rc_gd h fun hn h => ?_
  refine rg_step 3 (G' := fun f => evC f 195 56 [oR 52 0, oR 9 0, oR 30 0] [vI (cI 10), vI (cI 4), vR 52 0] s10) (fun _ => rfl) ?_
  refine rg_step 1 (G' := fun f => evC f 195 60 [oR 52 0, oR 9 0, oR 30 0] [vR 62 0, vR 52 0] (s_make (1 + 4) (4 + 4 * 10) s10)) (fun f => cv_newm (f := f) (M := 195) (pc := 56) (idx := 21) (r := 0) hn rfl rfl rfl) (rc_ltM h fun s11 h => ?_)
  refine rg_step 1 (G' := fun f => evC f 195 63 [oR 52 0, oR 9 0, oR 30 0] [] (wF s11 52 14)) (fun _ => rfl) (rc_ltM h fun s12 h => ?_)
  refine rc_gd h fun hn h => ?_
  refine rg_step 3 (G' := fun f => evC f 195 69 [oR 52 0, oR 9 0, oR 30 0] [vI (cI 200), vI (cI 8), vR 52 0] s12) (fun _ => rfl) ?_
  refine rg_step 1 (G' := fun f => evC f 195 73 [oR 52 0, oR 9 0, oR 30 0] [vR 67 0, vR 52 0] (s_make (1 + 8) (8 + 8 * 200) s12)) (fun f => cv_newm (f := f) (M := 195) (pc := 69) (idx := 21) (r := 0) hn rfl rfl rfl) (rc_ltM h fun s13 h => ?_)
  refine rg_step 1 (G' := fun f => evC f 195 76 [oR 52 0, oR 9 0, oR 30 0] [] (wF s13 52 15)) (fun _ => rfl) (rc_ltM h fun s14 h => ?_)
  refine rc_gd h fun hn h => ?_
  refine rg_step 2 (G' := fun f => evC f 195 79 [oR 52 0, oR 9 0, oR 30 0] [vI (cI 10), vR 52 0] s14) (fun _ => rfl) ?_
  refine rg_step 1 (G' := fun f => evC f 195 81 [oR 52 0, oR 9 0, oR 30 0] [vR 76 0, vR 52 0] (s_make 1 10 s14)) (fun f => cv_newa (f := f) (M := 195) (pc := 79) (a := .int) (r := 1) hn rfl rfl rfl) (rc_ltM h fun s15 h => ?_)
  refine rg_step 1 (G' := fun f => evC f 195 84 [oR 52 0, oR 9 0, oR 30 0] [] (wF s15 52 16)) (fun _ => rfl) (rc_ltM h fun s16 h => ?_)
  refine rc_gd h fun hn h => ?_
  refine rg_step 2 (G' := fun f => evC f 195 87 [oR 52 0, oR 9 0, oR 30 0] [vI (cI 11), vR 52 0] s16) (fun _ => rfl) ?_
  refine rg_step 1 (G' := fun f => evC f 195 89 [oR 52 0, oR 9 0, oR 30 0] [vR 77 0, vR 52 0] (s_make 1 11 s16)) (fun f => cv_newa (f := f) (M := 195) (pc := 87) (a := .int) (r := 1) hn rfl rfl rfl) (rc_ltM h fun s17 h => ?_)
  refine rg_step 1 (G' := fun f => evC f 195 92 [oR 52 0, oR 9 0, oR 30 0] [] (wF s17 52 17)) (fun _ => rfl) (rc_ltM h fun s18 h => ?_)
  refine rg_step 3 (G' := fun f => evC f 195 97 [oR 52 0, oR 9 0, oR 30 0] [] (wF s18 52 0)) (fun _ => rfl) (rc_ltM h fun s19 h => ?_)
  refine rg_step 3 (G' := fun f => evC f 195 102 [oR 52 0, oR 9 0, oR 30 0] [] (wF s19 52 1)) (fun _ => rfl) (rc_ltM h fun s20 h => ?_)
  refine rg_step 2 (G' := fun f => ev_after (evC f 196 0 [oR 52 0] [] s20) (fun q => evC f 195 106 [oR 52 0, oR 9 0, oR 30 0] (q.2 ++ []) q.1)) (fun _ => rfl) (rg_bd1 h fun s21 hc h => rg_call (q := cvV s21) (Tc_gSheet_clear hc) ?_)
  exact rg_end 1 (fun _ => rfl) (by cases h; rfl)
theorem Tc_gMoney_init_9_15_30 {s : ev_M} {q : ev_M} (h : gMoney_init_9_15_30 s = some q) : RC 145 0 [oR 78 0, oR 9 0, oR 15 0, oR 30 0] [] s (cvV q) := by
  refine rc_gd h fun hn h => ?_
  refine rg_step 4 (G' := fun f => evC f 145 7 [oR 78 0, oR 9 0, oR 15 0, oR 30 0] [vI (cI 34), vR 78 0] s) (fun _ => rfl) ?_
  refine rg_step 1 (G' := fun f => evC f 145 9 [oR 78 0, oR 9 0, oR 15 0, oR 30 0] [vR 79 0, vR 78 0] (s_make 1 34 s)) (fun f => cv_newa (f := f) (M := 145) (pc := 7) (a := .int) (r := 1) hn rfl rfl rfl) (rc_ltM h fun s1 h => ?_)
  refine rg_step 1 (G' := fun f => evC f 145 12 [oR 78 0, oR 9 0, oR 15 0, oR 30 0] [] (wF s1 78 4)) (fun _ => rfl) (rc_ltM h fun s2 h => ?_)
  refine rc_gd h fun hn h => ?_
  refine rg_step 2 (G' := fun f => evC f 145 15 [oR 78 0, oR 9 0, oR 15 0, oR 30 0] [vI (cI 34), vR 78 0] s2) (fun _ => rfl) ?_
  refine rg_step 1 (G' := fun f => evC f 145 17 [oR 78 0, oR 9 0, oR 15 0, oR 30 0] [vR 80 0, vR 78 0] (s_make 1 34 s2)) (fun f => cv_newa (f := f) (M := 145) (pc := 15) (a := .long) (r := 4) hn rfl rfl rfl) (rc_ltM h fun s3 h => ?_)
  refine rg_step 1 (G' := fun f => evC f 145 20 [oR 78 0, oR 9 0, oR 15 0, oR 30 0] [] (wF s3 78 5)) (fun _ => rfl) (rc_ltM h fun s4 h => ?_)
  refine rc_gd h fun hn h => ?_
  refine rg_step 3 (G' := fun f => evC f 145 25 [oR 78 0, oR 9 0, oR 15 0, oR 30 0] [vI (cI 2000), vI (cI 4), vR 78 0] s4) (fun _ => rfl) ?_
  refine rg_step 1 (G' := fun f => evC f 145 29 [oR 78 0, oR 9 0, oR 15 0, oR 30 0] [vR 81 0, vR 78 0] (s_make (1 + 4) (4 + 4 * 2000) s4)) (fun f => cv_newm (f := f) (M := 145) (pc := 25) (idx := 19) (r := 0) hn rfl rfl rfl) (rc_ltM h fun s5 h => ?_)
  refine rg_step 1 (G' := fun f => evC f 145 32 [oR 78 0, oR 9 0, oR 15 0, oR 30 0] [] (wF s5 78 7)) (fun _ => rfl) (rc_ltM h fun s6 h => ?_)
  refine rc_gd h fun hn h => ?_
  refine rg_step 3 (G' := fun f => evC f 145 36 [oR 78 0, oR 9 0, oR 15 0, oR 30 0] [vI (cI 60), vI (cI 5), vR 78 0] s6) (fun _ => rfl) ?_
  refine rg_step 1 (G' := fun f => evC f 145 40 [oR 78 0, oR 9 0, oR 15 0, oR 30 0] [vR 86 0, vR 78 0] (s_make (1 + 5) (5 + 5 * 60) s6)) (fun f => cv_newm (f := f) (M := 145) (pc := 36) (idx := 19) (r := 0) hn rfl rfl rfl) (rc_ltM h fun s7 h => ?_)
  refine rg_step 1 (G' := fun f => evC f 145 43 [oR 78 0, oR 9 0, oR 15 0, oR 30 0] [] (wF s7 78 10)) (fun _ => rfl) (rc_ltM h fun s8 h => ?_)
  refine rc_gd h fun hn h => ?_
  refine rg_step 3 (G' := fun f => evC f 145 47 [oR 78 0, oR 9 0, oR 15 0, oR 30 0] [vI (cI 40), vI (cI 3), vR 78 0] s8) (fun _ => rfl) ?_
  refine rg_step 1 (G' := fun f => evC f 145 51 [oR 78 0, oR 9 0, oR 15 0, oR 30 0] [vR 92 0, vR 78 0] (s_make (1 + 3) (3 + 3 * 40) s8)) (fun f => cv_newm (f := f) (M := 145) (pc := 47) (idx := 19) (r := 0) hn rfl rfl rfl) (rc_ltM h fun s9 h => ?_)
  refine rg_step 1 (G' := fun f => evC f 145 54 [oR 78 0, oR 9 0, oR 15 0, oR 30 0] [] (wF s9 78 12)) (fun _ => rfl) (rc_ltM h fun s10 h => ?_)
  refine rc_gd h fun hn h => ?_
  refine rg_step 3 (G' := fun f => evC f 145 58 [oR 78 0, oR 9 0, oR 15 0, oR 30 0] [vI (cI 40), vI (cI 3), vR 78 0] s10) (fun _ => rfl) ?_
  refine rg_step 1 (G' := fun f => evC f 145 62 [oR 78 0, oR 9 0, oR 15 0, oR 30 0] [vR 96 0, vR 78 0] (s_make (1 + 3) (3 + 3 * 40) s10)) (fun f => cv_newm (f := f) (M := 145) (pc := 58) (idx := 19) (r := 0) hn rfl rfl rfl) (rc_ltM h fun s11 h => ?_)
  refine rg_step 1 (G' := fun f => evC f 145 65 [oR 78 0, oR 9 0, oR 15 0, oR 30 0] [] (wF s11 78 14)) (fun _ => rfl) (rc_ltM h fun s12 h => ?_)
  refine rg_step 3 (G' := fun f => evC f 145 70 [oR 78 0, oR 9 0, oR 15 0, oR 30 0] [] (wF s12 78 0)) (fun _ => rfl) (rc_ltM h fun s13 h => ?_)
  refine rg_step 3 (G' := fun f => evC f 145 75 [oR 78 0, oR 9 0, oR 15 0, oR 30 0] [] (wF s13 78 1)) (fun _ => rfl) (rc_ltM h fun s14 h => ?_)
  refine rg_step 3 (G' := fun f => evC f 145 80 [oR 78 0, oR 9 0, oR 15 0, oR 30 0] [] (wF s14 78 2)) (fun _ => rfl) (rc_ltM h fun s15 h => ?_)
  exact rg_end 1 (fun _ => rfl) (by cases h; rfl)
theorem Tc_gItems_init_9_15_30_52_78 {s : ev_M} {q : ev_M} (h : gItems_init_9_15_30_52_78 s = some q) : RC 49 0 [oR 100 0, oR 9 0, oR 15 0, oR 30 0, oR 52 0, oR 78 0] [] s (cvV q) := by
  refine rc_gd h fun hn h => ?_
  refine rg_step 5 (G' := fun f => evC f 49 10 [oR 100 0, oR 9 0, oR 15 0, oR 30 0, oR 52 0, oR 78 0] [vI (cI 300), vI (cI 22), vR 100 0] s) (fun _ => rfl) ?_
  refine rg_step 1 (G' := fun f => evC f 49 14 [oR 100 0, oR 9 0, oR 15 0, oR 30 0, oR 52 0, oR 78 0] [vR 101 0, vR 100 0] (s_make (1 + 22) (22 + 22 * 300) s)) (fun f => cv_newm (f := f) (M := 49) (pc := 10) (idx := 11) (r := 0) hn rfl rfl rfl) (rc_ltM h fun s1 h => ?_)
  refine rg_step 1 (G' := fun f => evC f 49 17 [oR 100 0, oR 9 0, oR 15 0, oR 30 0, oR 52 0, oR 78 0] [] (wF s1 100 7)) (fun _ => rfl) (rc_ltM h fun s2 h => ?_)
  refine rc_gd h fun hn h => ?_
  refine rg_step 2 (G' := fun f => evC f 49 21 [oR 100 0, oR 9 0, oR 15 0, oR 30 0, oR 52 0, oR 78 0] [vI (cI 300), vR 100 0] s2) (fun _ => rfl) ?_
  refine rg_step 1 (G' := fun f => evC f 49 23 [oR 100 0, oR 9 0, oR 15 0, oR 30 0, oR 52 0, oR 78 0] [vR 124 0, vR 100 0] (s_make 1 300 s2)) (fun f => cv_newa (f := f) (M := 49) (pc := 21) (a := .int) (r := 1) hn rfl rfl rfl) (rc_ltM h fun s3 h => ?_)
  refine rg_step 1 (G' := fun f => evC f 49 26 [oR 100 0, oR 9 0, oR 15 0, oR 30 0, oR 52 0, oR 78 0] [] (wF s3 100 8)) (fun _ => rfl) (rc_ltM h fun s4 h => ?_)
  refine rg_step 3 (G' := fun f => evC f 49 31 [oR 100 0, oR 9 0, oR 15 0, oR 30 0, oR 52 0, oR 78 0] [] (wF s4 100 0)) (fun _ => rfl) (rc_ltM h fun s5 h => ?_)
  refine rg_step 3 (G' := fun f => evC f 49 36 [oR 100 0, oR 9 0, oR 15 0, oR 30 0, oR 52 0, oR 78 0] [] (wF s5 100 1)) (fun _ => rfl) (rc_ltM h fun s6 h => ?_)
  refine rg_step 3 (G' := fun f => evC f 49 41 [oR 100 0, oR 9 0, oR 15 0, oR 30 0, oR 52 0, oR 78 0] [] (wF s6 100 2)) (fun _ => rfl) (rc_ltM h fun s7 h => ?_)
  refine rg_step 3 (G' := fun f => evC f 49 47 [oR 100 0, oR 9 0, oR 15 0, oR 30 0, oR 52 0, oR 78 0] [] (wF s7 100 3)) (fun _ => rfl) (rc_ltM h fun s8 h => ?_)
  refine rg_step 3 (G' := fun f => evC f 49 53 [oR 100 0, oR 9 0, oR 15 0, oR 30 0, oR 52 0, oR 78 0] [] (wF s8 100 4)) (fun _ => rfl) (rc_ltM h fun s9 h => ?_)
  exact rg_end 1 (fun _ => rfl) (by cases h; rfl)
theorem Tc_gLock_init_9_30_100 {s : ev_M} {q : ev_M} (h : gLock_init_9_30_100 s = some q) : RC 108 0 [oR 125 0, oR 9 0, oR 30 0, oR 100 0] [] s (cvV q) := by
  refine rc_gd h fun hn h => ?_
  refine rg_step 4 (G' := fun f => evC f 108 7 [oR 125 0, oR 9 0, oR 30 0, oR 100 0] [vI (cI 8), vR 125 0] s) (fun _ => rfl) ?_
  refine rg_step 1 (G' := fun f => evC f 108 9 [oR 125 0, oR 9 0, oR 30 0, oR 100 0] [vR 126 0, vR 125 0] (s_make 1 8 s)) (fun f => cv_newa (f := f) (M := 108) (pc := 7) (a := .int) (r := 1) hn rfl rfl rfl) (rc_ltM h fun s1 h => ?_)
  refine rg_step 1 (G' := fun f => evC f 108 12 [oR 125 0, oR 9 0, oR 30 0, oR 100 0] [] (wF s1 125 4)) (fun _ => rfl) (rc_ltM h fun s2 h => ?_)
  refine rc_gd h fun hn h => ?_
  refine rg_step 2 (G' := fun f => evC f 108 15 [oR 125 0, oR 9 0, oR 30 0, oR 100 0] [vI (cI 8), vR 125 0] s2) (fun _ => rfl) ?_
  refine rg_step 1 (G' := fun f => evC f 108 17 [oR 125 0, oR 9 0, oR 30 0, oR 100 0] [vR 127 0, vR 125 0] (s_make 1 8 s2)) (fun f => cv_newa (f := f) (M := 108) (pc := 15) (a := .int) (r := 1) hn rfl rfl rfl) (rc_ltM h fun s3 h => ?_)
  refine rg_step 1 (G' := fun f => evC f 108 20 [oR 125 0, oR 9 0, oR 30 0, oR 100 0] [] (wF s3 125 5)) (fun _ => rfl) (rc_ltM h fun s4 h => ?_)
  refine rc_gd h fun hn h => ?_
  refine rg_step 2 (G' := fun f => evC f 108 23 [oR 125 0, oR 9 0, oR 30 0, oR 100 0] [vI (cI 8), vR 125 0] s4) (fun _ => rfl) ?_
  refine rg_step 1 (G' := fun f => evC f 108 25 [oR 125 0, oR 9 0, oR 30 0, oR 100 0] [vR 128 0, vR 125 0] (s_make 1 8 s4)) (fun f => cv_newa (f := f) (M := 108) (pc := 23) (a := .int) (r := 1) hn rfl rfl rfl) (rc_ltM h fun s5 h => ?_)
  refine rg_step 1 (G' := fun f => evC f 108 28 [oR 125 0, oR 9 0, oR 30 0, oR 100 0] [] (wF s5 125 6)) (fun _ => rfl) (rc_ltM h fun s6 h => ?_)
  refine rc_gd h fun hn h => ?_
  refine rg_step 3 (G' := fun f => evC f 108 33 [oR 125 0, oR 9 0, oR 30 0, oR 100 0] [vI (cI 10), vI (cI 8), vR 125 0] s6) (fun _ => rfl) ?_
  refine rg_step 1 (G' := fun f => evC f 108 37 [oR 125 0, oR 9 0, oR 30 0, oR 100 0] [vR 129 0, vR 125 0] (s_make (1 + 8) (8 + 8 * 10) s6)) (fun f => cv_newm (f := f) (M := 108) (pc := 33) (idx := 21) (r := 0) hn rfl rfl rfl) (rc_ltM h fun s7 h => ?_)
  refine rg_step 1 (G' := fun f => evC f 108 40 [oR 125 0, oR 9 0, oR 30 0, oR 100 0] [] (wF s7 125 7)) (fun _ => rfl) (rc_ltM h fun s8 h => ?_)
  refine rg_step 3 (G' := fun f => evC f 108 45 [oR 125 0, oR 9 0, oR 30 0, oR 100 0] [] (wF s8 125 0)) (fun _ => rfl) (rc_ltM h fun s9 h => ?_)
  refine rg_step 3 (G' := fun f => evC f 108 50 [oR 125 0, oR 9 0, oR 30 0, oR 100 0] [] (wF s9 125 1)) (fun _ => rfl) (rc_ltM h fun s10 h => ?_)
  refine rg_step 3 (G' := fun f => evC f 108 55 [oR 125 0, oR 9 0, oR 30 0, oR 100 0] [] (wF s10 125 2)) (fun _ => rfl) (rc_ltM h fun s11 h => ?_)
  exact rg_end 1 (fun _ => rfl) (by cases h; rfl)
theorem tci_gArr_fillI_158_h5 : ∀ (n : Nat) (s : ev_M) (x1 : Int32) (x2 : Int32) (x3 : Int32) (q : ev_M), gArr_fillI_158_h5 n s x1 x2 x3 = some q → RC 537 5 [oR 158 0, oI x1, oI x2, oI x3] [] s (cvV q) := by
  intro n
  induction n with
  | zero => intro s x1 x2 x3 q h; cases h
  | succ n ih =>
    have hk5 : ∀ {s : ev_M} {x1 : Int32} {x2 : Int32} {x3 : Int32} {q : ev_M}, gArr_fillI_158_h5 n s x1 x2 x3 = some q → RC 537 5 [oR 158 0, oI x1, oI x2, oI x3] [] s (cvV q) := fun h => ih _ _ _ _ _ h
    intro s x1 x2 x3 q h
    refine rg_step 3 (G' := fun f => if x2 < x3 then evC f 537 10 [oR 158 0, oI x1, oI x2, oI x3] [] s else evC f 537 20 [oR 158 0, oI x1, oI x2, oI x3] [] s) (fun _ => rfl) (rg_if h (fun h => ?_) fun h => ?_)
    · refine rg_step 4 (G' := fun f => if inb x2 120 = true then evC f 537 14 [oR 158 0, oI x1, oI x2, oI x3] [] (wI s 158 (ix x2) x1) else none) (fun _ => rfl) (rg_gd h fun h => rc_ltM h fun s1 h => ?_)
      exact rg_step 2 (G' := fun f => evC f 537 5 [oR 158 0, oI x1, oI (x2 + cI 1), oI x3] [] s1) (fun _ => rfl) (hk5 h)
    · exact rg_end 1 (fun _ => rfl) (by cases h; rfl)
theorem tc_gArr_fillI_158_h5 {n : Nat} {s : ev_M} {x1 : Int32} {x2 : Int32} {x3 : Int32} {q : ev_M} (h : gArr_fillI_158_h5 n s x1 x2 x3 = some q) : RC 537 5 [oR 158 0, oI x1, oI x2, oI x3] [] s (cvV q) := tci_gArr_fillI_158_h5 n s x1 x2 x3 q h
theorem Tc_gArr_fillI_158 {s : ev_M} {a1 : Int32} {q : ev_M} (h : gArr_fillI_158 s a1 = some q) : RC 537 0 [oR 158 0, oI a1, nn, nn] [] s (cvV q) := by
  exact rg_step 5 (G' := fun f => evC f 537 5 [oR 158 0, oI a1, oI (cI 0), oI (cI 120)] [] s) (fun _ => rfl) ((tc_gArr_fillI_158_h5) h)
theorem Tc_gRounds_clear {s : ev_M} {q : ev_M} (h : gRounds_clear s = some q) : RC 167 0 [oR 138 0] [] s (cvV q) := by
  refine rg_step 3 (G' := fun f => evC f 167 5 [oR 138 0] [] (wI s 138 3 (cI 0))) (fun _ => rfl) (rc_ltM h fun s1 h => ?_)
  refine rg_step 3 (G' := fun f => evC f 167 10 [oR 138 0] [] (wI s1 138 9 (cI 0))) (fun _ => rfl) (rc_ltM h fun s2 h => ?_)
  refine rg_step 3 (G' := fun f => evC f 167 15 [oR 138 0] [] (wI s2 138 10 (cI 0))) (fun _ => rfl) (rc_ltM h fun s3 h => ?_)
  refine rg_step 2 (G' := fun f => bif s3.2.2.2.1 138 6 then evC f 167 19 [oR 138 0] [vR 158 0] s3 else none) (fun _ => rfl) (rc_bf h fun h => ?_)
  refine rg_step 2 (G' := fun f => ev_after (evC f 537 0 [oR 158 0, oI (cI (-1)), nn, nn] [] s3) (fun q => evC f 167 23 [oR 138 0] (q.2 ++ []) q.1)) (fun _ => rfl) (rg_bd1 h fun s4 hc h => rg_call (q := cvV s4) (Tc_gArr_fillI_158 hc) ?_)
  refine rg_step 2 (G' := fun f => bif s4.2.2.2.1 138 8 then evC f 167 27 [oR 138 0] [vR 172 0] s4 else none) (fun _ => rfl) (rc_bf h fun h => ?_)
  refine rg_step 3 (G' := fun f => evC f 167 30 [oR 138 0] [] (wI s4 172 (ix (cI 0)) (cI 4))) (fun _ => rfl) (rc_ltM h fun s5 h => ?_)
  refine rg_step 2 (G' := fun f => bif s5.2.2.2.1 138 8 then evC f 167 34 [oR 138 0] [vR 172 0] s5 else none) (fun _ => rfl) (rc_bf h fun h => ?_)
  refine rg_step 3 (G' := fun f => evC f 167 38 [oR 138 0] [] (wI s5 172 (ix (cI 1)) (cI 100))) (fun _ => rfl) (rc_ltM h fun s6 h => ?_)
  refine rg_step 2 (G' := fun f => bif s6.2.2.2.1 138 8 then evC f 167 42 [oR 138 0] [vR 172 0] s6 else none) (fun _ => rfl) (rc_bf h fun h => ?_)
  refine rg_step 3 (G' := fun f => evC f 167 46 [oR 138 0] [] (wI s6 172 (ix (cI 2)) (cI 50))) (fun _ => rfl) (rc_ltM h fun s7 h => ?_)
  refine rg_step 2 (G' := fun f => bif s7.2.2.2.1 138 8 then evC f 167 50 [oR 138 0] [vR 172 0] s7 else none) (fun _ => rfl) (rc_bf h fun h => ?_)
  refine rg_step 3 (G' := fun f => evC f 167 54 [oR 138 0] [] (wI s7 172 (ix (cI 3)) (cI 80))) (fun _ => rfl) (rc_ltM h fun s8 h => ?_)
  exact rg_end 1 (fun _ => rfl) (by cases h; rfl)
theorem Tc_gRounds_init_9_30_100 {s : ev_M} {q : ev_M} (h : gRounds_init_9_30_100 s = some q) : RC 166 0 [oR 138 0, oR 9 0, oR 30 0, oR 100 0] [] s (cvV q) := by
  refine rc_gd h fun hn h => ?_
  refine rg_step 5 (G' := fun f => evC f 166 8 [oR 138 0, oR 9 0, oR 30 0, oR 100 0] [vI (cI 12), vI (cI 5), vR 138 0] s) (fun _ => rfl) ?_
  refine rg_step 1 (G' := fun f => evC f 166 12 [oR 138 0, oR 9 0, oR 30 0, oR 100 0] [vR 139 0, vR 138 0] (s_make (1 + 5) (5 + 5 * 12) s)) (fun f => cv_newm (f := f) (M := 166) (pc := 8) (idx := 11) (r := 0) hn rfl rfl rfl) (rc_ltM h fun s1 h => ?_)
  refine rg_step 1 (G' := fun f => evC f 166 15 [oR 138 0, oR 9 0, oR 30 0, oR 100 0] [] (wF s1 138 4)) (fun _ => rfl) (rc_ltM h fun s2 h => ?_)
  refine rc_gd h fun hn h => ?_
  refine rg_step 3 (G' := fun f => evC f 166 20 [oR 138 0, oR 9 0, oR 30 0, oR 100 0] [vI (cI 20), vI (cI 12), vR 138 0] s2) (fun _ => rfl) ?_
  refine rg_step 1 (G' := fun f => evC f 166 24 [oR 138 0, oR 9 0, oR 30 0, oR 100 0] [vR 145 0, vR 138 0] (s_make (1 + 12) (12 + 12 * 20) s2)) (fun f => cv_newm (f := f) (M := 166) (pc := 20) (idx := 11) (r := 0) hn rfl rfl rfl) (rc_ltM h fun s3 h => ?_)
  refine rg_step 1 (G' := fun f => evC f 166 27 [oR 138 0, oR 9 0, oR 30 0, oR 100 0] [] (wF s3 138 5)) (fun _ => rfl) (rc_ltM h fun s4 h => ?_)
  refine rc_gd h fun hn h => ?_
  refine rg_step 2 (G' := fun f => evC f 166 30 [oR 138 0, oR 9 0, oR 30 0, oR 100 0] [vI (cI 120), vR 138 0] s4) (fun _ => rfl) ?_
  refine rg_step 1 (G' := fun f => evC f 166 32 [oR 138 0, oR 9 0, oR 30 0, oR 100 0] [vR 158 0, vR 138 0] (s_make 1 120 s4)) (fun f => cv_newa (f := f) (M := 166) (pc := 30) (a := .int) (r := 1) hn rfl rfl rfl) (rc_ltM h fun s5 h => ?_)
  refine rg_step 1 (G' := fun f => evC f 166 35 [oR 138 0, oR 9 0, oR 30 0, oR 100 0] [] (wF s5 138 6)) (fun _ => rfl) (rc_ltM h fun s6 h => ?_)
  refine rc_gd h fun hn h => ?_
  refine rg_step 3 (G' := fun f => evC f 166 41 [oR 138 0, oR 9 0, oR 30 0, oR 100 0] [vI (cI 300), vI (cI 12), vR 138 0] s6) (fun _ => rfl) ?_
  refine rg_step 1 (G' := fun f => evC f 166 45 [oR 138 0, oR 9 0, oR 30 0, oR 100 0] [vR 159 0, vR 138 0] (s_make (1 + 12) (12 + 12 * 300) s6)) (fun f => cv_newm (f := f) (M := 166) (pc := 41) (idx := 11) (r := 0) hn rfl rfl rfl) (rc_ltM h fun s7 h => ?_)
  refine rg_step 1 (G' := fun f => evC f 166 48 [oR 138 0, oR 9 0, oR 30 0, oR 100 0] [] (wF s7 138 7)) (fun _ => rfl) (rc_ltM h fun s8 h => ?_)
  refine rc_gd h fun hn h => ?_
  refine rg_step 2 (G' := fun f => evC f 166 50 [oR 138 0, oR 9 0, oR 30 0, oR 100 0] [vI (cI 4), vR 138 0] s8) (fun _ => rfl) ?_
  refine rg_step 1 (G' := fun f => evC f 166 52 [oR 138 0, oR 9 0, oR 30 0, oR 100 0] [vR 172 0, vR 138 0] (s_make 1 4 s8)) (fun f => cv_newa (f := f) (M := 166) (pc := 50) (a := .int) (r := 1) hn rfl rfl rfl) (rc_ltM h fun s9 h => ?_)
  refine rg_step 1 (G' := fun f => evC f 166 55 [oR 138 0, oR 9 0, oR 30 0, oR 100 0] [] (wF s9 138 8)) (fun _ => rfl) (rc_ltM h fun s10 h => ?_)
  refine rc_gd h fun hn h => ?_
  refine rg_step 2 (G' := fun f => evC f 166 59 [oR 138 0, oR 9 0, oR 30 0, oR 100 0] [vI (cI 300), vR 138 0] s10) (fun _ => rfl) ?_
  refine rg_step 1 (G' := fun f => evC f 166 61 [oR 138 0, oR 9 0, oR 30 0, oR 100 0] [vR 173 0, vR 138 0] (s_make 1 300 s10)) (fun f => cv_newa (f := f) (M := 166) (pc := 59) (a := .int) (r := 1) hn rfl rfl rfl) (rc_ltM h fun s11 h => ?_)
  refine rg_step 1 (G' := fun f => evC f 166 64 [oR 138 0, oR 9 0, oR 30 0, oR 100 0] [] (wF s11 138 11)) (fun _ => rfl) (rc_ltM h fun s12 h => ?_)
  refine rc_gd h fun hn h => ?_
  refine rg_step 2 (G' := fun f => evC f 166 68 [oR 138 0, oR 9 0, oR 30 0, oR 100 0] [vI (cI 300), vR 138 0] s12) (fun _ => rfl) ?_
  refine rg_step 1 (G' := fun f => evC f 166 70 [oR 138 0, oR 9 0, oR 30 0, oR 100 0] [vR 174 0, vR 138 0] (s_make 1 300 s12)) (fun f => cv_newa (f := f) (M := 166) (pc := 68) (a := .int) (r := 1) hn rfl rfl rfl) (rc_ltM h fun s13 h => ?_)
  refine rg_step 1 (G' := fun f => evC f 166 73 [oR 138 0, oR 9 0, oR 30 0, oR 100 0] [] (wF s13 138 13)) (fun _ => rfl) (rc_ltM h fun s14 h => ?_)
  refine rc_gd h fun hn h => ?_
  refine rg_step 2 (G' := fun f => evC f 166 77 [oR 138 0, oR 9 0, oR 30 0, oR 100 0] [vI (cI 300), vR 138 0] s14) (fun _ => rfl) ?_
  refine rg_step 1 (G' := fun f => evC f 166 79 [oR 138 0, oR 9 0, oR 30 0, oR 100 0] [vR 175 0, vR 138 0] (s_make 1 300 s14)) (fun f => cv_newa (f := f) (M := 166) (pc := 77) (a := .int) (r := 1) hn rfl rfl rfl) (rc_ltM h fun s15 h => ?_)
  refine rg_step 1 (G' := fun f => evC f 166 82 [oR 138 0, oR 9 0, oR 30 0, oR 100 0] [] (wF s15 138 14)) (fun _ => rfl) (rc_ltM h fun s16 h => ?_)
  refine rc_gd h fun hn h => ?_
  refine rg_step 3 (G' := fun f => evC f 166 87 [oR 138 0, oR 9 0, oR 30 0, oR 100 0] [vI (cI 300), vI (cI 3), vR 138 0] s16) (fun _ => rfl) ?_
  refine rg_step 1 (G' := fun f => evC f 166 91 [oR 138 0, oR 9 0, oR 30 0, oR 100 0] [vR 176 0, vR 138 0] (s_make (1 + 3) (3 + 3 * 300) s16)) (fun f => cv_newm (f := f) (M := 166) (pc := 87) (idx := 11) (r := 0) hn rfl rfl rfl) (rc_ltM h fun s17 h => ?_)
  refine rg_step 1 (G' := fun f => evC f 166 94 [oR 138 0, oR 9 0, oR 30 0, oR 100 0] [] (wF s17 138 15)) (fun _ => rfl) (rc_ltM h fun s18 h => ?_)
  refine rc_gd h fun hn h => ?_
  refine rg_step 2 (G' := fun f => evC f 166 97 [oR 138 0, oR 9 0, oR 30 0, oR 100 0] [vI (cI 16), vR 138 0] s18) (fun _ => rfl) ?_
  refine rg_step 1 (G' := fun f => evC f 166 99 [oR 138 0, oR 9 0, oR 30 0, oR 100 0] [vR 180 0, vR 138 0] (s_make 1 16 s18)) (fun f => cv_newa (f := f) (M := 166) (pc := 97) (a := .boolean) (r := 3) hn rfl rfl rfl) (rc_ltM h fun s19 h => ?_)
  refine rg_step 1 (G' := fun f => evC f 166 102 [oR 138 0, oR 9 0, oR 30 0, oR 100 0] [] (wF s19 138 16)) (fun _ => rfl) (rc_ltM h fun s20 h => ?_)
  refine rc_gd h fun hn h => ?_
  refine rg_step 2 (G' := fun f => evC f 166 105 [oR 138 0, oR 9 0, oR 30 0, oR 100 0] [vI (cI 16), vR 138 0] s20) (fun _ => rfl) ?_
  refine rg_step 1 (G' := fun f => evC f 166 107 [oR 138 0, oR 9 0, oR 30 0, oR 100 0] [vR 181 0, vR 138 0] (s_make 1 16 s20)) (fun f => cv_newa (f := f) (M := 166) (pc := 105) (a := .int) (r := 1) hn rfl rfl rfl) (rc_ltM h fun s21 h => ?_)
  refine rg_step 1 (G' := fun f => evC f 166 110 [oR 138 0, oR 9 0, oR 30 0, oR 100 0] [] (wF s21 138 17)) (fun _ => rfl) (rc_ltM h fun s22 h => ?_)
  refine rc_gd h fun hn h => ?_
  refine rg_step 3 (G' := fun f => evC f 166 115 [oR 138 0, oR 9 0, oR 30 0, oR 100 0] [vI (cI 9), vI (cI 9), vR 138 0] s22) (fun _ => rfl) ?_
  refine rg_step 1 (G' := fun f => evC f 166 119 [oR 138 0, oR 9 0, oR 30 0, oR 100 0] [vR 182 0, vR 138 0] (s_make (1 + 9) (9 + 9 * 9) s22)) (fun f => cv_newm (f := f) (M := 166) (pc := 115) (idx := 11) (r := 0) hn rfl rfl rfl) (rc_ltM h fun s23 h => ?_)
  refine rg_step 1 (G' := fun f => evC f 166 122 [oR 138 0, oR 9 0, oR 30 0, oR 100 0] [] (wF s23 138 18)) (fun _ => rfl) (rc_ltM h fun s24 h => ?_)
  refine rc_gd h fun hn h => ?_
  refine rg_step 3 (G' := fun f => evC f 166 128 [oR 138 0, oR 9 0, oR 30 0, oR 100 0] [vI (cI 8), vI (cI 256), vR 138 0] s24) (fun _ => rfl) ?_
  refine rg_step 1 (G' := fun f => evC f 166 132 [oR 138 0, oR 9 0, oR 30 0, oR 100 0] [vR 192 0, vR 138 0] (s_make (1 + 256) (256 + 256 * 8) s24)) (fun f => cv_newm (f := f) (M := 166) (pc := 128) (idx := 11) (r := 0) hn rfl rfl rfl) (rc_ltM h fun s25 h => ?_)
  refine rg_step 1 (G' := fun f => evC f 166 135 [oR 138 0, oR 9 0, oR 30 0, oR 100 0] [] (wF s25 138 19)) (fun _ => rfl) (rc_ltM h fun s26 h => ?_)
  refine rg_step 3 (G' := fun f => evC f 166 140 [oR 138 0, oR 9 0, oR 30 0, oR 100 0] [] (wF s26 138 0)) (fun _ => rfl) (rc_ltM h fun s27 h => ?_)
  refine rg_step 3 (G' := fun f => evC f 166 145 [oR 138 0, oR 9 0, oR 30 0, oR 100 0] [] (wF s27 138 1)) (fun _ => rfl) (rc_ltM h fun s28 h => ?_)
  refine rg_step 3 (G' := fun f => evC f 166 150 [oR 138 0, oR 9 0, oR 30 0, oR 100 0] [] (wF s28 138 2)) (fun _ => rfl) (rc_ltM h fun s29 h => ?_)
  refine rg_step 2 (G' := fun f => ev_after (evC f 167 0 [oR 138 0] [] s29) (fun q => evC f 166 154 [oR 138 0, oR 9 0, oR 30 0, oR 100 0] (q.2 ++ []) q.1)) (fun _ => rfl) (rg_bd1 h fun s30 hc h => rg_call (q := cvV s30) (Tc_gRounds_clear hc) ?_)
  exact rg_end 1 (fun _ => rfl) (by cases h; rfl)
theorem Tc_gLines_init_9_15_30_100 {s : ev_M} {q : ev_M} (h : gLines_init_9_15_30_100 s = some q) : RC 84 0 [oR 449 0, oR 9 0, oR 15 0, oR 30 0, oR 100 0] [] s (cvV q) := by
  refine rc_gd h fun hn h => ?_
  refine rg_step 5 (G' := fun f => evC f 84 9 [oR 449 0, oR 9 0, oR 15 0, oR 30 0, oR 100 0] [vI (cI 20), vI (cI 7), vR 449 0] s) (fun _ => rfl) ?_
  refine rg_step 1 (G' := fun f => evC f 84 13 [oR 449 0, oR 9 0, oR 15 0, oR 30 0, oR 100 0] [vR 450 0, vR 449 0] (s_make (1 + 7) (7 + 7 * 20) s)) (fun f => cv_newm (f := f) (M := 84) (pc := 9) (idx := 11) (r := 0) hn rfl rfl rfl) (rc_ltM h fun s1 h => ?_)
  refine rg_step 1 (G' := fun f => evC f 84 16 [oR 449 0, oR 9 0, oR 15 0, oR 30 0, oR 100 0] [] (wF s1 449 5)) (fun _ => rfl) (rc_ltM h fun s2 h => ?_)
  refine rc_gd h fun hn h => ?_
  refine rg_step 3 (G' := fun f => evC f 84 21 [oR 449 0, oR 9 0, oR 15 0, oR 30 0, oR 100 0] [vI (cI 80), vI (cI 6), vR 449 0] s2) (fun _ => rfl) ?_
  refine rg_step 1 (G' := fun f => evC f 84 25 [oR 449 0, oR 9 0, oR 15 0, oR 30 0, oR 100 0] [vR 458 0, vR 449 0] (s_make (1 + 6) (6 + 6 * 80) s2)) (fun f => cv_newm (f := f) (M := 84) (pc := 21) (idx := 11) (r := 0) hn rfl rfl rfl) (rc_ltM h fun s3 h => ?_)
  refine rg_step 1 (G' := fun f => evC f 84 28 [oR 449 0, oR 9 0, oR 15 0, oR 30 0, oR 100 0] [] (wF s3 449 7)) (fun _ => rfl) (rc_ltM h fun s4 h => ?_)
  refine rc_gd h fun hn h => ?_
  refine rg_step 3 (G' := fun f => evC f 84 33 [oR 449 0, oR 9 0, oR 15 0, oR 30 0, oR 100 0] [vI (cI 40), vI (cI 80), vR 449 0] s4) (fun _ => rfl) ?_
  refine rg_step 1 (G' := fun f => evC f 84 37 [oR 449 0, oR 9 0, oR 15 0, oR 30 0, oR 100 0] [vR 465 0, vR 449 0] (s_make (1 + 80) (80 + 80 * 40) s4)) (fun f => cv_newm (f := f) (M := 84) (pc := 33) (idx := 11) (r := 0) hn rfl rfl rfl) (rc_ltM h fun s5 h => ?_)
  refine rg_step 1 (G' := fun f => evC f 84 40 [oR 449 0, oR 9 0, oR 15 0, oR 30 0, oR 100 0] [] (wF s5 449 8)) (fun _ => rfl) (rc_ltM h fun s6 h => ?_)
  refine rc_gd h fun hn h => ?_
  refine rg_step 2 (G' := fun f => evC f 84 43 [oR 449 0, oR 9 0, oR 15 0, oR 30 0, oR 100 0] [vI (cI 12), vR 449 0] s6) (fun _ => rfl) ?_
  refine rg_step 1 (G' := fun f => evC f 84 45 [oR 449 0, oR 9 0, oR 15 0, oR 30 0, oR 100 0] [vR 546 0, vR 449 0] (s_make 1 12 s6)) (fun f => cv_newa (f := f) (M := 84) (pc := 43) (a := .int) (r := 1) hn rfl rfl rfl) (rc_ltM h fun s7 h => ?_)
  refine rg_step 1 (G' := fun f => evC f 84 48 [oR 449 0, oR 9 0, oR 15 0, oR 30 0, oR 100 0] [] (wF s7 449 9)) (fun _ => rfl) (rc_ltM h fun s8 h => ?_)
  refine rc_gd h fun hn h => ?_
  refine rg_step 2 (G' := fun f => evC f 84 51 [oR 449 0, oR 9 0, oR 15 0, oR 30 0, oR 100 0] [vI (cI 12), vR 449 0] s8) (fun _ => rfl) ?_
  refine rg_step 1 (G' := fun f => evC f 84 53 [oR 449 0, oR 9 0, oR 15 0, oR 30 0, oR 100 0] [vR 547 0, vR 449 0] (s_make 1 12 s8)) (fun f => cv_newa (f := f) (M := 84) (pc := 51) (a := .int) (r := 1) hn rfl rfl rfl) (rc_ltM h fun s9 h => ?_)
  refine rg_step 1 (G' := fun f => evC f 84 56 [oR 449 0, oR 9 0, oR 15 0, oR 30 0, oR 100 0] [] (wF s9 449 10)) (fun _ => rfl) (rc_ltM h fun s10 h => ?_)
  refine rc_gd h fun hn h => ?_
  refine rg_step 2 (G' := fun f => evC f 84 59 [oR 449 0, oR 9 0, oR 15 0, oR 30 0, oR 100 0] [vI (cI 12), vR 449 0] s10) (fun _ => rfl) ?_
  refine rg_step 1 (G' := fun f => evC f 84 61 [oR 449 0, oR 9 0, oR 15 0, oR 30 0, oR 100 0] [vR 548 0, vR 449 0] (s_make 1 12 s10)) (fun f => cv_newa (f := f) (M := 84) (pc := 59) (a := .boolean) (r := 3) hn rfl rfl rfl) (rc_ltM h fun s11 h => ?_)
  refine rg_step 1 (G' := fun f => evC f 84 64 [oR 449 0, oR 9 0, oR 15 0, oR 30 0, oR 100 0] [] (wF s11 449 11)) (fun _ => rfl) (rc_ltM h fun s12 h => ?_)
  refine rg_step 3 (G' := fun f => evC f 84 69 [oR 449 0, oR 9 0, oR 15 0, oR 30 0, oR 100 0] [] (wF s12 449 0)) (fun _ => rfl) (rc_ltM h fun s13 h => ?_)
  refine rg_step 3 (G' := fun f => evC f 84 74 [oR 449 0, oR 9 0, oR 15 0, oR 30 0, oR 100 0] [] (wF s13 449 1)) (fun _ => rfl) (rc_ltM h fun s14 h => ?_)
  refine rg_step 3 (G' := fun f => evC f 84 79 [oR 449 0, oR 9 0, oR 15 0, oR 30 0, oR 100 0] [] (wF s14 449 2)) (fun _ => rfl) (rc_ltM h fun s15 h => ?_)
  refine rg_step 3 (G' := fun f => evC f 84 85 [oR 449 0, oR 9 0, oR 15 0, oR 30 0, oR 100 0] [] (wF s15 449 3)) (fun _ => rfl) (rc_ltM h fun s16 h => ?_)
  exact rg_end 1 (fun _ => rfl) (by cases h; rfl)
theorem Tc_gPH_init {s : ev_M} {q : ev_M} (h : gPH_init s = some q) : RC 230 0 [oR 0 0] [] s (cvV q) := by
  refine rc_gd h fun hn h => ?_
  refine rg_step 3 (G' := fun f => evC f 230 5 [oR 0 0] [vR 0 0] s) (fun _ => rfl) ?_
  refine rg_step 1 (G' := fun f => evC f 230 8 [oR 0 0] [vR 1 0, vR 0 0] (s_make 1 6 s)) (fun f => cv_new (f := f) (M := 230) (pc := 5) (idx := 7) (r := 10) hn rfl rfl rfl) (rc_ltM h fun s1 h => ?_)
  refine rg_step 2 (G' := fun f => ev_after (evC f 221 0 [oR 1 0] [] s1) (fun q => evC f 230 12 [oR 0 0] (q.2 ++ [vR 1 0, vR 0 0]) q.1)) (fun _ => rfl) (rg_bd1 h fun s2 hc h => rg_call (q := cvV s2) (Tc_gTape_init_1 hc) ?_)
  refine rg_step 1 (G' := fun f => evC f 230 15 [oR 0 0] [] (wF s2 0 0)) (fun _ => rfl) (rc_ltM h fun s3 h => ?_)
  refine rc_gd h fun hn h => ?_
  refine rg_step 1 (G' := fun f => evC f 230 16 [oR 0 0] [vR 0 0] s3) (fun _ => rfl) ?_
  refine rg_step 1 (G' := fun f => evC f 230 19 [oR 0 0] [vR 4 0, vR 0 0] (s_make 1 6 s3)) (fun f => cv_new (f := f) (M := 230) (pc := 16) (idx := 7) (r := 10) hn rfl rfl rfl) (rc_ltM h fun s4 h => ?_)
  refine rg_step 2 (G' := fun f => ev_after (evC f 221 0 [oR 4 0] [] s4) (fun q => evC f 230 23 [oR 0 0] (q.2 ++ [vR 4 0, vR 0 0]) q.1)) (fun _ => rfl) (rg_bd1 h fun s5 hc h => rg_call (q := cvV s5) (Tc_gTape_init_4 hc) ?_)
  refine rg_step 1 (G' := fun f => evC f 230 26 [oR 0 0] [] (wF s5 0 1)) (fun _ => rfl) (rc_ltM h fun s6 h => ?_)
  refine rc_gd h fun hn h => ?_
  refine rg_step 1 (G' := fun f => evC f 230 27 [oR 0 0] [vR 0 0] s6) (fun _ => rfl) ?_
  refine rg_step 1 (G' := fun f => evC f 230 30 [oR 0 0] [vR 7 0, vR 0 0] (s_make 1 2 s6)) (fun f => cv_new (f := f) (M := 230) (pc := 27) (idx := 19) (r := 0) hn rfl rfl rfl) (rc_ltM h fun s7 h => ?_)
  refine rg_step 2 (G' := fun f => ev_after (evC f 0 0 [oR 7 0] [] s7) (fun q => evC f 230 34 [oR 0 0] (q.2 ++ [vR 7 0, vR 0 0]) q.1)) (fun _ => rfl) (rg_bd1 h fun s8 hc h => rg_call (q := cvV s8) (Tc_gBars_init hc) ?_)
  refine rg_step 1 (G' := fun f => evC f 230 37 [oR 0 0] [] (wF s8 0 2)) (fun _ => rfl) (rc_ltM h fun s9 h => ?_)
  refine rc_gd h fun hn h => ?_
  refine rg_step 1 (G' := fun f => evC f 230 38 [oR 0 0] [vR 0 0] s9) (fun _ => rfl) ?_
  refine rg_step 1 (G' := fun f => evC f 230 41 [oR 0 0] [vR 9 0, vR 0 0] (s_make 1 16 s9)) (fun f => cv_new (f := f) (M := 230) (pc := 38) (idx := 26) (r := 6) hn rfl rfl rfl) (rc_ltM h fun s10 h => ?_)
  refine rg_step 3 (G' := fun f => bif s10.2.2.2.1 0 0 then evC f 230 46 [oR 0 0] [vR 1 0, vR 9 0, vR 9 0, vR 0 0] s10 else none) (fun _ => rfl) (rc_bf h fun h => ?_)
  refine rg_step 1 (G' := fun f => ev_after (evC f 121 0 [oR 9 0, oR 1 0] [] s10) (fun q => evC f 230 49 [oR 0 0] (q.2 ++ [vR 9 0, vR 0 0]) q.1)) (fun _ => rfl) (rg_bd1 h fun s11 hc h => rg_call (q := cvV s11) (Tc_gLog_init_1 hc) ?_)
  refine rg_step 1 (G' := fun f => evC f 230 52 [oR 0 0] [] (wF s11 0 3)) (fun _ => rfl) (rc_ltM h fun s12 h => ?_)
  refine rc_gd h fun hn h => ?_
  refine rg_step 1 (G' := fun f => evC f 230 53 [oR 0 0] [vR 0 0] s12) (fun _ => rfl) ?_
  refine rg_step 1 (G' := fun f => evC f 230 56 [oR 0 0] [vR 15 0, vR 0 0] (s_make 1 11 s12)) (fun f => cv_new (f := f) (M := 230) (pc := 53) (idx := 35) (r := 2) hn rfl rfl rfl) (rc_ltM h fun s13 h => ?_)
  refine rg_step 3 (G' := fun f => bif s13.2.2.2.1 0 3 then evC f 230 61 [oR 0 0] [vR 9 0, vR 15 0, vR 15 0, vR 0 0] s13 else none) (fun _ => rfl) (rc_bf h fun h => ?_)
  refine rg_step 1 (G' := fun f => ev_after (evC f 39 0 [oR 15 0, oR 9 0] [] s13) (fun q => evC f 230 64 [oR 0 0] (q.2 ++ [vR 15 0, vR 0 0]) q.1)) (fun _ => rfl) (rg_bd1 h fun s14 hc h => rg_call (q := cvV s14) (Tc_gChron_init_9 hc) ?_)
  refine rg_step 1 (G' := fun f => evC f 230 67 [oR 0 0] [] (wF s14 0 4)) (fun _ => rfl) (rc_ltM h fun s15 h => ?_)
  refine rc_gd h fun hn h => ?_
  refine rg_step 1 (G' := fun f => evC f 230 68 [oR 0 0] [vR 0 0] s15) (fun _ => rfl) ?_
  refine rg_step 1 (G' := fun f => evC f 230 71 [oR 0 0] [vR 30 0, vR 0 0] (s_make 1 16 s15)) (fun f => cv_new (f := f) (M := 230) (pc := 68) (idx := 44) (r := 1) hn rfl rfl rfl) (rc_ltM h fun s16 h => ?_)
  refine rg_step 3 (G' := fun f => bif s16.2.2.2.1 0 3 then evC f 230 76 [oR 0 0] [vR 9 0, vR 30 0, vR 30 0, vR 0 0] s16 else none) (fun _ => rfl) (rc_bf h fun h => ?_)
  refine rg_step 2 (G' := fun f => bif s16.2.2.2.1 0 4 then evC f 230 80 [oR 0 0] [vR 15 0, vR 9 0, vR 30 0, vR 30 0, vR 0 0] s16 else none) (fun _ => rfl) (rc_bf h fun h => ?_)
  refine rg_step 1 (G' := fun f => ev_after (evC f 10 0 [oR 30 0, oR 9 0, oR 15 0] [] s16) (fun q => evC f 230 83 [oR 0 0] (q.2 ++ [vR 30 0, vR 0 0]) q.1)) (fun _ => rfl) (rg_bd1 h fun s17 hc h => rg_call (q := cvV s17) (Tc_gBook_init_9_15 hc) ?_)
  refine rg_step 1 (G' := fun f => evC f 230 86 [oR 0 0] [] (wF s17 0 5)) (fun _ => rfl) (rc_ltM h fun s18 h => ?_)
  refine rc_gd h fun hn h => ?_
  refine rg_step 1 (G' := fun f => evC f 230 87 [oR 0 0] [vR 0 0] s18) (fun _ => rfl) ?_
  refine rg_step 1 (G' := fun f => evC f 230 90 [oR 0 0] [vR 52 0, vR 0 0] (s_make 1 18 s18)) (fun f => cv_new (f := f) (M := 230) (pc := 87) (idx := 53) (r := 9) hn rfl rfl rfl) (rc_ltM h fun s19 h => ?_)
  refine rg_step 3 (G' := fun f => bif s19.2.2.2.1 0 3 then evC f 230 95 [oR 0 0] [vR 9 0, vR 52 0, vR 52 0, vR 0 0] s19 else none) (fun _ => rfl) (rc_bf h fun h => ?_)
  refine rg_step 2 (G' := fun f => bif s19.2.2.2.1 0 5 then evC f 230 99 [oR 0 0] [vR 30 0, vR 9 0, vR 52 0, vR 52 0, vR 0 0] s19 else none) (fun _ => rfl) (rc_bf h fun h => ?_)
  refine rg_step 1 (G' := fun f => ev_after (evC f 195 0 [oR 52 0, oR 9 0, oR 30 0] [] s19) (fun q => evC f 230 102 [oR 0 0] (q.2 ++ [vR 52 0, vR 0 0]) q.1)) (fun _ => rfl) (rg_bd1 h fun s20 hc h => rg_call (q := cvV s20) (Tc_gSheet_init_9_30 hc) ?_)
  refine rg_step 1 (G' := fun f => evC f 230 105 [oR 0 0] [] (wF s20 0 6)) (fun _ => rfl) (rc_ltM h fun s21 h => ?_)
  refine rc_gd h fun hn h => ?_
  refine rg_step 1 (G' := fun f => evC f 230 106 [oR 0 0] [vR 0 0] s21) (fun _ => rfl) ?_
  refine rg_step 1 (G' := fun f => evC f 230 109 [oR 0 0] [vR 78 0, vR 0 0] (s_make 1 15 s21)) (fun f => cv_new (f := f) (M := 230) (pc := 106) (idx := 62) (r := 7) hn rfl rfl rfl) (rc_ltM h fun s22 h => ?_)
  refine rg_step 3 (G' := fun f => bif s22.2.2.2.1 0 3 then evC f 230 114 [oR 0 0] [vR 9 0, vR 78 0, vR 78 0, vR 0 0] s22 else none) (fun _ => rfl) (rc_bf h fun h => ?_)
  refine rg_step 2 (G' := fun f => bif s22.2.2.2.1 0 4 then evC f 230 118 [oR 0 0] [vR 15 0, vR 9 0, vR 78 0, vR 78 0, vR 0 0] s22 else none) (fun _ => rfl) (rc_bf h fun h => ?_)
  refine rg_step 2 (G' := fun f => bif s22.2.2.2.1 0 5 then evC f 230 122 [oR 0 0] [vR 30 0, vR 15 0, vR 9 0, vR 78 0, vR 78 0, vR 0 0] s22 else none) (fun _ => rfl) (rc_bf h fun h => ?_)
  refine rg_step 1 (G' := fun f => ev_after (evC f 145 0 [oR 78 0, oR 9 0, oR 15 0, oR 30 0] [] s22) (fun q => evC f 230 125 [oR 0 0] (q.2 ++ [vR 78 0, vR 0 0]) q.1)) (fun _ => rfl) (rg_bd1 h fun s23 hc h => rg_call (q := cvV s23) (Tc_gMoney_init_9_15_30 hc) ?_)
  refine rg_step 1 (G' := fun f => evC f 230 128 [oR 0 0] [] (wF s23 0 7)) (fun _ => rfl) (rc_ltM h fun s24 h => ?_)
  refine rc_gd h fun hn h => ?_
  refine rg_step 1 (G' := fun f => evC f 230 129 [oR 0 0] [vR 0 0] s24) (fun _ => rfl) ?_
  refine rg_step 1 (G' := fun f => evC f 230 132 [oR 0 0] [vR 100 0, vR 0 0] (s_make 1 9 s24)) (fun f => cv_new (f := f) (M := 230) (pc := 129) (idx := 71) (r := 3) hn rfl rfl rfl) (rc_ltM h fun s25 h => ?_)
  refine rg_step 3 (G' := fun f => bif s25.2.2.2.1 0 3 then evC f 230 137 [oR 0 0] [vR 9 0, vR 100 0, vR 100 0, vR 0 0] s25 else none) (fun _ => rfl) (rc_bf h fun h => ?_)
  refine rg_step 2 (G' := fun f => bif s25.2.2.2.1 0 4 then evC f 230 141 [oR 0 0] [vR 15 0, vR 9 0, vR 100 0, vR 100 0, vR 0 0] s25 else none) (fun _ => rfl) (rc_bf h fun h => ?_)
  refine rg_step 2 (G' := fun f => bif s25.2.2.2.1 0 5 then evC f 230 145 [oR 0 0] [vR 30 0, vR 15 0, vR 9 0, vR 100 0, vR 100 0, vR 0 0] s25 else none) (fun _ => rfl) (rc_bf h fun h => ?_)
  refine rg_step 2 (G' := fun f => bif s25.2.2.2.1 0 6 then evC f 230 149 [oR 0 0] [vR 52 0, vR 30 0, vR 15 0, vR 9 0, vR 100 0, vR 100 0, vR 0 0] s25 else none) (fun _ => rfl) (rc_bf h fun h => ?_)
  refine rg_step 2 (G' := fun f => bif s25.2.2.2.1 0 7 then evC f 230 153 [oR 0 0] [vR 78 0, vR 52 0, vR 30 0, vR 15 0, vR 9 0, vR 100 0, vR 100 0, vR 0 0] s25 else none) (fun _ => rfl) (rc_bf h fun h => ?_)
  refine rg_step 1 (G' := fun f => ev_after (evC f 49 0 [oR 100 0, oR 9 0, oR 15 0, oR 30 0, oR 52 0, oR 78 0] [] s25) (fun q => evC f 230 156 [oR 0 0] (q.2 ++ [vR 100 0, vR 0 0]) q.1)) (fun _ => rfl) (rg_bd1 h fun s26 hc h => rg_call (q := cvV s26) (Tc_gItems_init_9_15_30_52_78 hc) ?_)
  refine rg_step 1 (G' := fun f => evC f 230 159 [oR 0 0] [] (wF s26 0 8)) (fun _ => rfl) (rc_ltM h fun s27 h => ?_)
  refine rc_gd h fun hn h => ?_
  refine rg_step 1 (G' := fun f => evC f 230 160 [oR 0 0] [vR 0 0] s27) (fun _ => rfl) ?_
  refine rg_step 1 (G' := fun f => evC f 230 163 [oR 0 0] [vR 125 0, vR 0 0] (s_make 1 8 s27)) (fun f => cv_new (f := f) (M := 230) (pc := 160) (idx := 80) (r := 5) hn rfl rfl rfl) (rc_ltM h fun s28 h => ?_)
  refine rg_step 3 (G' := fun f => bif s28.2.2.2.1 0 3 then evC f 230 168 [oR 0 0] [vR 9 0, vR 125 0, vR 125 0, vR 0 0] s28 else none) (fun _ => rfl) (rc_bf h fun h => ?_)
  refine rg_step 2 (G' := fun f => bif s28.2.2.2.1 0 5 then evC f 230 172 [oR 0 0] [vR 30 0, vR 9 0, vR 125 0, vR 125 0, vR 0 0] s28 else none) (fun _ => rfl) (rc_bf h fun h => ?_)
  refine rg_step 2 (G' := fun f => bif s28.2.2.2.1 0 8 then evC f 230 176 [oR 0 0] [vR 100 0, vR 30 0, vR 9 0, vR 125 0, vR 125 0, vR 0 0] s28 else none) (fun _ => rfl) (rc_bf h fun h => ?_)
  refine rg_step 1 (G' := fun f => ev_after (evC f 108 0 [oR 125 0, oR 9 0, oR 30 0, oR 100 0] [] s28) (fun q => evC f 230 179 [oR 0 0] (q.2 ++ [vR 125 0, vR 0 0]) q.1)) (fun _ => rfl) (rg_bd1 h fun s29 hc h => rg_call (q := cvV s29) (Tc_gLock_init_9_30_100 hc) ?_)
  refine rg_step 1 (G' := fun f => evC f 230 182 [oR 0 0] [] (wF s29 0 9)) (fun _ => rfl) (rc_ltM h fun s30 h => ?_)
  refine rc_gd h fun hn h => ?_
  refine rg_step 1 (G' := fun f => evC f 230 183 [oR 0 0] [vR 0 0] s30) (fun _ => rfl) ?_
  refine rg_step 1 (G' := fun f => evC f 230 186 [oR 0 0] [vR 138 0, vR 0 0] (s_make 1 20 s30)) (fun f => cv_new (f := f) (M := 230) (pc := 183) (idx := 89) (r := 8) hn rfl rfl rfl) (rc_ltM h fun s31 h => ?_)
  refine rg_step 3 (G' := fun f => bif s31.2.2.2.1 0 3 then evC f 230 191 [oR 0 0] [vR 9 0, vR 138 0, vR 138 0, vR 0 0] s31 else none) (fun _ => rfl) (rc_bf h fun h => ?_)
  refine rg_step 2 (G' := fun f => bif s31.2.2.2.1 0 5 then evC f 230 195 [oR 0 0] [vR 30 0, vR 9 0, vR 138 0, vR 138 0, vR 0 0] s31 else none) (fun _ => rfl) (rc_bf h fun h => ?_)
  refine rg_step 2 (G' := fun f => bif s31.2.2.2.1 0 8 then evC f 230 199 [oR 0 0] [vR 100 0, vR 30 0, vR 9 0, vR 138 0, vR 138 0, vR 0 0] s31 else none) (fun _ => rfl) (rc_bf h fun h => ?_)
  refine rg_step 1 (G' := fun f => ev_after (evC f 166 0 [oR 138 0, oR 9 0, oR 30 0, oR 100 0] [] s31) (fun q => evC f 230 202 [oR 0 0] (q.2 ++ [vR 138 0, vR 0 0]) q.1)) (fun _ => rfl) (rg_bd1 h fun s32 hc h => rg_call (q := cvV s32) (Tc_gRounds_init_9_30_100 hc) ?_)
  refine rg_step 1 (G' := fun f => evC f 230 205 [oR 0 0] [] (wF s32 0 10)) (fun _ => rfl) (rc_ltM h fun s33 h => ?_)
  refine rc_gd h fun hn h => ?_
  refine rg_step 1 (G' := fun f => evC f 230 206 [oR 0 0] [vR 0 0] s33) (fun _ => rfl) ?_
  refine rg_step 1 (G' := fun f => evC f 230 209 [oR 0 0] [vR 449 0, vR 0 0] (s_make 1 12 s33)) (fun f => cv_new (f := f) (M := 230) (pc := 206) (idx := 96) (r := 4) hn rfl rfl rfl) (rc_ltM h fun s34 h => ?_)
  refine rg_step 3 (G' := fun f => bif s34.2.2.2.1 0 3 then evC f 230 214 [oR 0 0] [vR 9 0, vR 449 0, vR 449 0, vR 0 0] s34 else none) (fun _ => rfl) (rc_bf h fun h => ?_)
  refine rg_step 2 (G' := fun f => bif s34.2.2.2.1 0 4 then evC f 230 218 [oR 0 0] [vR 15 0, vR 9 0, vR 449 0, vR 449 0, vR 0 0] s34 else none) (fun _ => rfl) (rc_bf h fun h => ?_)
  refine rg_step 2 (G' := fun f => bif s34.2.2.2.1 0 5 then evC f 230 222 [oR 0 0] [vR 30 0, vR 15 0, vR 9 0, vR 449 0, vR 449 0, vR 0 0] s34 else none) (fun _ => rfl) (rc_bf h fun h => ?_)
  refine rg_step 2 (G' := fun f => bif s34.2.2.2.1 0 8 then evC f 230 226 [oR 0 0] [vR 100 0, vR 30 0, vR 15 0, vR 9 0, vR 449 0, vR 449 0, vR 0 0] s34 else none) (fun _ => rfl) (rc_bf h fun h => ?_)
  refine rg_step 1 (G' := fun f => ev_after (evC f 84 0 [oR 449 0, oR 9 0, oR 15 0, oR 30 0, oR 100 0] [] s34) (fun q => evC f 230 229 [oR 0 0] (q.2 ++ [vR 449 0, vR 0 0]) q.1)) (fun _ => rfl) (rg_bd1 h fun s35 hc h => rg_call (q := cvV s35) (Tc_gLines_init_9_15_30_100 hc) ?_)
  refine rg_step 1 (G' := fun f => evC f 230 232 [oR 0 0] [] (wF s35 0 11)) (fun _ => rfl) (rc_ltM h fun s36 h => ?_)
  exact rg_end 1 (fun _ => rfl) (by cases h; rfl)
theorem tc_gM_times_b43 {s : ev_M} {k4 : Int32 → Int32 → Int32 → Int32 → Option Int32} (hk4 : ∀ {x0 : Int32} {x1 : Int32} {x2 : Int32} {x3 : Int32} {q : Int32}, k4 x0 x1 x2 x3 = some q → RC 420 4 [oI x0, oI x1, oI x2, oI x3] [] s (cvP s q)) {x0 : Int32} {x1 : Int32} {x3 : Int32} {y0 : Int32} {j2 : Option ev_V} {q : Int32} (h : gM_times_b43 s k4 x0 x1 x3 y0 = some q) : RC 420 43 [oI x0, oI x1, j2, oI x3] [vI y0] s (cvP s q) := by
  exact rg_step 3 (G' := fun f => evC f 420 4 [oI x0, oI x1, oI y0, oI (x3 + cI (-1))] [] s) (fun _ => rfl) (hk4 h)
theorem tc_gM_times_b26 {s : ev_M} {k4 : Int32 → Int32 → Int32 → Int32 → Option Int32} (hk4 : ∀ {x0 : Int32} {x1 : Int32} {x2 : Int32} {x3 : Int32} {q : Int32}, k4 x0 x1 x2 x3 = some q → RC 420 4 [oI x0, oI x1, oI x2, oI x3] [] s (cvP s q)) {x0 : Int32} {x1 : Int32} {x3 : Int32} {y0 : Int32} {j2 : Option ev_V} {q : Int32} (h : gM_times_b26 s k4 x0 x1 x3 y0 = some q) : RC 420 26 [oI x0, oI x1, j2, oI x3] [vI y0] s (cvP s q) := by
  refine rg_step 8 (G' := fun f => if ((x1 >>> (x3 &&& 31)) &&& (cI 1)) = (cI 1) then evC f 420 36 [oI x0, oI x1, oI y0, oI x3] [] s else evC f 420 42 [oI x0, oI x1, oI y0, oI x3] [] s) (fun _ => rfl) (rg_if h (fun h => ?_) fun h => ?_)
  · exact rg_step 4 (G' := fun f => evC f 420 43 [oI x0, oI x1, oI y0, oI x3] [vI (y0 ^^^ x0)] s) (fun _ => rfl) ((tc_gM_times_b43 hk4) h)
  · exact rg_step 1 (G' := fun f => evC f 420 43 [oI x0, oI x1, oI y0, oI x3] [vI y0] s) (fun _ => rfl) ((tc_gM_times_b43 hk4) h)
theorem tci_gM_times_h4 {s : ev_M} : ∀ (n : Nat) (x0 : Int32) (x1 : Int32) (x2 : Int32) (x3 : Int32) (q : Int32), gM_times_h4 s n x0 x1 x2 x3 = some q → RC 420 4 [oI x0, oI x1, oI x2, oI x3] [] s (cvP s q) := by
  intro n
  induction n with
  | zero => intro x0 x1 x2 x3 q h; cases h
  | succ n ih =>
    have hk4 : ∀ {x0 : Int32} {x1 : Int32} {x2 : Int32} {x3 : Int32} {q : Int32}, gM_times_h4 s n x0 x1 x2 x3 = some q → RC 420 4 [oI x0, oI x1, oI x2, oI x3] [] s (cvP s q) := fun h => ih _ _ _ _ _ h
    intro x0 x1 x2 x3 q h
    refine rg_step 2 (G' := fun f => if x3 < 0 then evC f 420 50 [oI x0, oI x1, oI x2, oI x3] [] s else evC f 420 8 [oI x0, oI x1, oI x2, oI x3] [] s) (fun _ => rfl) (rg_if h (fun h => ?_) fun h => ?_)
    · exact rg_end 2 (fun _ => rfl) (by cases h; rfl)
    · refine rg_step 4 (G' := fun f => evC f 420 12 [oI x0, oI x1, oI (x2 <<< ((cI 1) &&& 31)), oI x3] [] s) (fun _ => rfl) (rg_ltI (P := fun v1 => RG (fun f => evC f 420 12 [oI x0, oI x1, oI v1, oI x3] [] s) (cvP s q)) h fun v1 h => ?_)
      refine rg_step 3 (G' := fun f => if v1 ≤ (cI 15) then evC f 420 25 [oI x0, oI x1, oI v1, oI x3] [] s else evC f 420 18 [oI x0, oI x1, oI v1, oI x3] [] s) (fun _ => rfl) (rg_if h (fun h => ?_) fun h => ?_)
      · exact rg_step 1 (G' := fun f => evC f 420 26 [oI x0, oI x1, oI v1, oI x3] [vI v1] s) (fun _ => rfl) ((tc_gM_times_b26 hk4) h)
      · exact rg_step 4 (G' := fun f => evC f 420 26 [oI x0, oI x1, oI v1, oI x3] [vI (v1 ^^^ (cI 19))] s) (fun _ => rfl) ((tc_gM_times_b26 hk4) h)
theorem tc_gM_times_h4 {s : ev_M} {n : Nat} {x0 : Int32} {x1 : Int32} {x2 : Int32} {x3 : Int32} {q : Int32} (h : gM_times_h4 s n x0 x1 x2 x3 = some q) : RC 420 4 [oI x0, oI x1, oI x2, oI x3] [] s (cvP s q) := tci_gM_times_h4 n x0 x1 x2 x3 q h
theorem Tc_gM_times {s : ev_M} {a0 : Int32} {a1 : Int32} {q : Int32} (h : gM_times s a0 a1 = some q) : RC 420 0 [oI a0, oI a1, nn, nn] [] s (cvP s q) := by
  exact rg_step 4 (G' := fun f => evC f 420 4 [oI a0, oI a1, oI (cI 0), oI (cI 3)] [] s) (fun _ => rfl) ((tc_gM_times_h4) h)
theorem tci_gM_power_h4 {s : ev_M} : ∀ (n : Nat) (x0 : Int32) (x1 : Int32) (x2 : Int32) (x3 : Int32) (q : Int32), gM_power_h4 s n x0 x1 x2 x3 = some q → RC 421 4 [oI x0, oI x1, oI x2, oI x3] [] s (cvP s q) := by
  intro n
  induction n with
  | zero => intro x0 x1 x2 x3 q h; cases h
  | succ n ih =>
    have hk4 : ∀ {x0 : Int32} {x1 : Int32} {x2 : Int32} {x3 : Int32} {q : Int32}, gM_power_h4 s n x0 x1 x2 x3 = some q → RC 421 4 [oI x0, oI x1, oI x2, oI x3] [] s (cvP s q) := fun h => ih _ _ _ _ _ h
    intro x0 x1 x2 x3 q h
    refine rg_step 3 (G' := fun f => if x3 < x1 then evC f 421 9 [oI x0, oI x1, oI x2, oI x3] [] s else evC f 421 21 [oI x0, oI x1, oI x2, oI x3] [] s) (fun _ => rfl) (rg_if h (fun h => ?_) fun h => ?_)
    · refine rg_step 3 (G' := fun f => ev_after (evC f 420 0 [oI x2, oI x0, nn, nn] [] s) (fun q => evC f 421 14 [oI x0, oI x1, oI x2, oI x3] (q.2 ++ []) q.1)) (fun _ => rfl) (rg_bd1 h fun v1 hc h => rg_call (q := cvP s v1) (Tc_gM_times hc) ?_)
      exact rg_step 3 (G' := fun f => evC f 421 4 [oI x0, oI x1, oI v1, oI (x3 + cI 1)] [] s) (fun _ => rfl) (hk4 h)
    · exact rg_end 2 (fun _ => rfl) (by cases h; rfl)
theorem tc_gM_power_h4 {s : ev_M} {n : Nat} {x0 : Int32} {x1 : Int32} {x2 : Int32} {x3 : Int32} {q : Int32} (h : gM_power_h4 s n x0 x1 x2 x3 = some q) : RC 421 4 [oI x0, oI x1, oI x2, oI x3] [] s (cvP s q) := tci_gM_power_h4 n x0 x1 x2 x3 q h
theorem Tc_gM_power {s : ev_M} {a0 : Int32} {a1 : Int32} {q : Int32} (h : gM_power s a0 a1 = some q) : RC 421 0 [oI a0, oI a1, nn, nn] [] s (cvP s q) := by
  exact rg_step 4 (G' := fun f => evC f 421 4 [oI a0, oI a1, oI (cI 1), oI (cI 0)] [] s) (fun _ => rfl) ((tc_gM_power_h4) h)
theorem tci_gM_empty_h162 : ∀ (n : Nat) (s : ev_M) (x1 : Int32) (q : ev_M), gM_empty_h162 n s x1 = some q → RC 339 162 [oR 549 0, oI x1] [] s (cvV q) := by
  intro n
  induction n with
  | zero => intro s x1 q h; cases h
  | succ n ih =>
    have hk162 : ∀ {s : ev_M} {x1 : Int32} {q : ev_M}, gM_empty_h162 n s x1 = some q → RC 339 162 [oR 549 0, oI x1] [] s (cvV q) := fun h => ih _ _ _ h
    intro s x1 q h
    refine rg_step 3 (G' := fun f => if x1 < (cI 8) then evC f 339 168 [oR 549 0, oI x1] [] s else evC f 339 181 [oR 549 0, oI x1] [] s) (fun _ => rfl) (rg_if h (fun h => ?_) fun h => ?_)
    · refine rg_step 2 (G' := fun f => bif s.2.2.2.1 549 138 then evC f 339 172 [oR 549 0, oI x1] [vR 647 0] s else none) (fun _ => rfl) (rc_bf h fun h => ?_)
      refine rg_step 3 (G' := fun f => if inb x1 8 = true then evC f 339 175 [oR 549 0, oI x1] [] (wI s 647 (ix x1) (cI 0)) else none) (fun _ => rfl) (rg_gd h fun h => rc_ltM h fun s1 h => ?_)
      exact rg_step 2 (G' := fun f => evC f 339 162 [oR 549 0, oI (x1 + cI 1)] [] s1) (fun _ => rfl) (hk162 h)
    · exact rg_end 1 (fun _ => rfl) (by cases h; rfl)
theorem tc_gM_empty_h162 {n : Nat} {s : ev_M} {x1 : Int32} {q : ev_M} (h : gM_empty_h162 n s x1 = some q) : RC 339 162 [oR 549 0, oI x1] [] s (cvV q) := tci_gM_empty_h162 n s x1 q h
theorem tci_gM_empty_h140 : ∀ (n : Nat) (s : ev_M) (x1 : Int32) (q : ev_M), gM_empty_h140 n s x1 = some q → RC 339 140 [oR 549 0, oI x1] [] s (cvV q) := by
  intro n
  induction n with
  | zero => intro s x1 q h; cases h
  | succ n ih =>
    have hk140 : ∀ {s : ev_M} {x1 : Int32} {q : ev_M}, gM_empty_h140 n s x1 = some q → RC 339 140 [oR 549 0, oI x1] [] s (cvV q) := fun h => ih _ _ _ h
    intro s x1 q h
    refine rg_step 3 (G' := fun f => if x1 < (cI 300) then evC f 339 147 [oR 549 0, oI x1] [] s else evC f 339 160 [oR 549 0, oI x1] [] s) (fun _ => rfl) (rg_if h (fun h => ?_) fun h => ?_)
    · refine rg_step 2 (G' := fun f => bif s.2.2.2.1 549 92 then evC f 339 151 [oR 549 0, oI x1] [vR 610 0] s else none) (fun _ => rfl) (rc_bf h fun h => ?_)
      refine rg_step 3 (G' := fun f => if inb x1 300 = true then evC f 339 154 [oR 549 0, oI x1] [] (wI s 610 (ix x1) ((cI 0) &&& 1)) else none) (fun _ => rfl) (rg_gd h fun h => rc_ltM h fun s2 h => ?_)
      exact rg_step 2 (G' := fun f => evC f 339 140 [oR 549 0, oI (x1 + cI 1)] [] s2) (fun _ => rfl) (hk140 h)
    · exact rg_step 2 (G' := fun f => evC f 339 162 [oR 549 0, oI (cI 0)] [] s) (fun _ => rfl) ((tc_gM_empty_h162) h)
theorem tc_gM_empty_h140 {n : Nat} {s : ev_M} {x1 : Int32} {q : ev_M} (h : gM_empty_h140 n s x1 = some q) : RC 339 140 [oR 549 0, oI x1] [] s (cvV q) := tci_gM_empty_h140 n s x1 q h
theorem Tc_gM_empty {s : ev_M} {q : ev_M} (h : gM_empty s = some q) : RC 339 0 [oR 549 0, nn] [] s (cvV q) := by
  refine rg_step 3 (G' := fun f => evC f 339 5 [oR 549 0, nn] [] (wI s 549 22 (cI 0))) (fun _ => rfl) (rc_ltM h fun s3 h => ?_)
  refine rg_step 3 (G' := fun f => evC f 339 10 [oR 549 0, nn] [] (wI s3 549 23 (cI 0))) (fun _ => rfl) (rc_ltM h fun s4 h => ?_)
  refine rg_step 3 (G' := fun f => evC f 339 15 [oR 549 0, nn] [] (wI s4 549 24 (cI 0))) (fun _ => rfl) (rc_ltM h fun s5 h => ?_)
  refine rg_step 3 (G' := fun f => evC f 339 20 [oR 549 0, nn] [] (wI s5 549 27 (cI 0))) (fun _ => rfl) (rc_ltM h fun s6 h => ?_)
  refine rg_step 3 (G' := fun f => evC f 339 25 [oR 549 0, nn] [] (wI s6 549 33 (cI 0))) (fun _ => rfl) (rc_ltM h fun s7 h => ?_)
  refine rg_step 3 (G' := fun f => evC f 339 30 [oR 549 0, nn] [] (wI s7 549 38 (cI 0))) (fun _ => rfl) (rc_ltM h fun s8 h => ?_)
  refine rg_step 3 (G' := fun f => evC f 339 35 [oR 549 0, nn] [] (wI s8 549 43 (cI 0))) (fun _ => rfl) (rc_ltM h fun s9 h => ?_)
  refine rg_step 3 (G' := fun f => evC f 339 40 [oR 549 0, nn] [] (wI s9 549 48 (cI 0))) (fun _ => rfl) (rc_ltM h fun s10 h => ?_)
  refine rg_step 3 (G' := fun f => evC f 339 45 [oR 549 0, nn] [] (wI s10 549 49 (cI 0))) (fun _ => rfl) (rc_ltM h fun s11 h => ?_)
  refine rg_step 3 (G' := fun f => evC f 339 50 [oR 549 0, nn] [] (wI s11 549 50 (cI (-1)))) (fun _ => rfl) (rc_ltM h fun s12 h => ?_)
  refine rg_step 3 (G' := fun f => evC f 339 55 [oR 549 0, nn] [] (wI s12 549 51 (cI 0))) (fun _ => rfl) (rc_ltM h fun s13 h => ?_)
  refine rg_step 3 (G' := fun f => evC f 339 60 [oR 549 0, nn] [] (wI s13 549 58 (cI 0))) (fun _ => rfl) (rc_ltM h fun s14 h => ?_)
  refine rg_step 3 (G' := fun f => evC f 339 65 [oR 549 0, nn] [] (wI s14 549 83 (cI 4))) (fun _ => rfl) (rc_ltM h fun s15 h => ?_)
  refine rg_step 3 (G' := fun f => evC f 339 71 [oR 549 0, nn] [] (wI s15 549 84 (cI 100))) (fun _ => rfl) (rc_ltM h fun s16 h => ?_)
  refine rg_step 3 (G' := fun f => evC f 339 77 [oR 549 0, nn] [] (wI s16 549 85 (cI 50))) (fun _ => rfl) (rc_ltM h fun s17 h => ?_)
  refine rg_step 3 (G' := fun f => evC f 339 83 [oR 549 0, nn] [] (wI s17 549 86 (cI 80))) (fun _ => rfl) (rc_ltM h fun s18 h => ?_)
  refine rg_step 3 (G' := fun f => evC f 339 88 [oR 549 0, nn] [] (wI s18 549 87 (cI 0))) (fun _ => rfl) (rc_ltM h fun s19 h => ?_)
  refine rg_step 3 (G' := fun f => evC f 339 93 [oR 549 0, nn] [] (wI s19 549 91 (cI 0))) (fun _ => rfl) (rc_ltM h fun s20 h => ?_)
  refine rg_step 3 (G' := fun f => evC f 339 98 [oR 549 0, nn] [] (wI s20 549 93 (cI 0))) (fun _ => rfl) (rc_ltM h fun s21 h => ?_)
  refine rg_step 3 (G' := fun f => evC f 339 103 [oR 549 0, nn] [] (wI s21 549 101 (cI 0))) (fun _ => rfl) (rc_ltM h fun s22 h => ?_)
  refine rg_step 3 (G' := fun f => evC f 339 108 [oR 549 0, nn] [] (wI s22 549 107 (cI 0))) (fun _ => rfl) (rc_ltM h fun s23 h => ?_)
  refine rg_step 3 (G' := fun f => evC f 339 113 [oR 549 0, nn] [] (wI s23 549 111 (cI 0))) (fun _ => rfl) (rc_ltM h fun s24 h => ?_)
  refine rg_step 3 (G' := fun f => evC f 339 118 [oR 549 0, nn] [] (wI s24 549 114 (cI 0))) (fun _ => rfl) (rc_ltM h fun s25 h => ?_)
  refine rg_step 3 (G' := fun f => evC f 339 123 [oR 549 0, nn] [] (wI s25 549 119 (cI 0))) (fun _ => rfl) (rc_ltM h fun s26 h => ?_)
  refine rg_step 3 (G' := fun f => evC f 339 128 [oR 549 0, nn] [] (wI s26 549 125 (cI 0))) (fun _ => rfl) (rc_ltM h fun s27 h => ?_)
  refine rg_step 3 (G' := fun f => evC f 339 133 [oR 549 0, nn] [] (wI s27 549 129 (cI 0))) (fun _ => rfl) (rc_ltM h fun s28 h => ?_)
  refine rg_step 3 (G' := fun f => evC f 339 138 [oR 549 0, nn] [] (wI s28 549 134 (cI 0))) (fun _ => rfl) (rc_ltM h fun s29 h => ?_)
  exact rg_step 2 (G' := fun f => evC f 339 140 [oR 549 0, oI (cI 0)] [] s29) (fun _ => rfl) ((tc_gM_empty_h140) h)
theorem tci_gM_init_h1384 : ∀ (n : Nat) (s : ev_M) (x1 : Int32) (q : ev_M), gM_init_h1384 n s x1 = some q → RC 312 1384 [oR 549 0, oI x1] [] s (cvV q) := by
  intro n
  induction n with
  | zero => intro s x1 q h; cases h
  | succ n ih =>
    have hk1384 : ∀ {s : ev_M} {x1 : Int32} {q : ev_M}, gM_init_h1384 n s x1 = some q → RC 312 1384 [oR 549 0, oI x1] [] s (cvV q) := fun h => ih _ _ _ h
    intro s x1 q h
    refine rg_step 3 (G' := fun f => if x1 < (cI 60) then evC f 312 1390 [oR 549 0, oI x1] [] s else evC f 312 1421 [oR 549 0, oI x1] [] s) (fun _ => rfl) (rg_if h (fun h => ?_) fun h => ?_)
    · refine rg_step 2 (G' := fun f => bif s.2.2.2.1 549 160 then evC f 312 1394 [oR 549 0, oI x1] [vR 663 0] s else none) (fun _ => rfl) (rc_bf h fun h => ?_)
      refine rg_step 3 (G' := fun f => bif s.2.2.2.1 549 158 then evC f 312 1399 [oR 549 0, oI x1] [vR 661 0, vI x1, vR 663 0] s else none) (fun _ => rfl) (rc_bf h fun h => ?_)
      refine rg_step 3 (G' := fun f => if (cI 15) = 0 then none else evC f 312 1403 [oR 549 0, oI x1] [vI (x1 / (cI 15)), vR 661 0, vI x1, vR 663 0] s) (fun _ => rfl) (rg_dv h fun h => ?_)
      refine rg_step 1 (G' := fun f => if inb (x1 / (cI 15)) 4 = true then evC f 312 1404 [oR 549 0, oI x1] [vI (s.1 661 (ix (x1 / (cI 15)))), vI x1, vR 663 0] s else none) (fun _ => rfl) (rg_gd h fun h => ?_)
      refine rg_step 4 (G' := fun f => if (cI 15) = 0 then none else evC f 312 1410 [oR 549 0, oI x1] [vI (irem x1 (cI 15)), vI (cI 14), vI (s.1 661 (ix (x1 / (cI 15)))), vI x1, vR 663 0] s) (fun _ => rfl) (rg_dv h fun h => ?_)
      refine rg_step 2 (G' := fun f => ev_after (evC f 421 0 [oI (s.1 661 (ix (x1 / (cI 15)))), oI ((cI 14) - (irem x1 (cI 15))), nn, nn] [] s) (fun q => evC f 312 1414 [oR 549 0, oI x1] (q.2 ++ [vI x1, vR 663 0]) q.1)) (fun _ => rfl) (rg_bd1 h fun v1 hc h => rg_call (q := cvP s v1) (Tc_gM_power hc) ?_)
      refine rg_step 1 (G' := fun f => if inb x1 60 = true then evC f 312 1415 [oR 549 0, oI x1] [] (wI s 663 (ix x1) v1) else none) (fun _ => rfl) (rg_gd h fun h => rc_ltM h fun s2 h => ?_)
      exact rg_step 2 (G' := fun f => evC f 312 1384 [oR 549 0, oI (x1 + cI 1)] [] s2) (fun _ => rfl) (hk1384 h)
    · refine rg_step 2 (G' := fun f => ev_after (evC f 339 0 [oR 549 0, nn] [] s) (fun q => evC f 312 1425 [oR 549 0, oI x1] (q.2 ++ []) q.1)) (fun _ => rfl) (rg_bd1 h fun s3 hc h => rg_call (q := cvV s3) (Tc_gM_empty hc) ?_)
      exact rg_end 1 (fun _ => rfl) (by cases h; rfl)
theorem tc_gM_init_h1384 {n : Nat} {s : ev_M} {x1 : Int32} {q : ev_M} (h : gM_init_h1384 n s x1 = some q) : RC 312 1384 [oR 549 0, oI x1] [] s (cvV q) := tci_gM_init_h1384 n s x1 q h
set_option maxRecDepth 20000 in
theorem Tc_gM_init {s : ev_M} {q : ev_M} (h : gM_init s = some q) : RC 312 0 [oR 549 0, nn] [] s (cvV q) := by
  refine rc_gd h fun hn h => ?_
  refine rg_step 4 (G' := fun f => evC f 312 8 [oR 549 0, nn] [vI (cI 4096), vR 549 0] s) (fun _ => rfl) ?_
  refine rg_step 1 (G' := fun f => evC f 312 10 [oR 549 0, nn] [vR 550 0, vR 549 0] (s_make 1 4096 s)) (fun f => cv_newa (f := f) (M := 312) (pc := 8) (a := .byte) (r := 2) hn rfl rfl rfl) (rc_ltM h fun s4 h => ?_)
  refine rg_step 1 (G' := fun f => evC f 312 13 [oR 549 0, nn] [] (wF s4 549 1)) (fun _ => rfl) (rc_ltM h fun s5 h => ?_)
  refine rc_gd h fun hn h => ?_
  refine rg_step 2 (G' := fun f => evC f 312 16 [oR 549 0, nn] [vI (cI 38656), vR 549 0] s5) (fun _ => rfl) ?_
  refine rg_step 1 (G' := fun f => evC f 312 18 [oR 549 0, nn] [vR 551 0, vR 549 0] (s_make 1 38656 s5)) (fun f => cv_newa (f := f) (M := 312) (pc := 16) (a := .byte) (r := 2) hn rfl rfl rfl) (rc_ltM h fun s6 h => ?_)
  refine rg_step 1 (G' := fun f => evC f 312 21 [oR 549 0, nn] [] (wF s6 549 3)) (fun _ => rfl) (rc_ltM h fun s7 h => ?_)
  refine rg_step 3 (G' := fun f => evC f 312 26 [oR 549 0, nn] [] (wI s7 549 6 (cI (-1)))) (fun _ => rfl) (rc_ltM h fun s8 h => ?_)
  refine rc_gd h fun hn h => ?_
  refine rg_step 2 (G' := fun f => evC f 312 29 [oR 549 0, nn] [vI (cI 37200), vR 549 0] s8) (fun _ => rfl) ?_
  refine rg_step 1 (G' := fun f => evC f 312 31 [oR 549 0, nn] [vR 552 0, vR 549 0] (s_make 1 37200 s8)) (fun f => cv_newa (f := f) (M := 312) (pc := 29) (a := .byte) (r := 2) hn rfl rfl rfl) (rc_ltM h fun s9 h => ?_)
  refine rg_step 1 (G' := fun f => evC f 312 34 [oR 549 0, nn] [] (wF s9 549 8)) (fun _ => rfl) (rc_ltM h fun s10 h => ?_)
  refine rc_gd h fun hn h => ?_
  refine rg_step 2 (G' := fun f => evC f 312 37 [oR 549 0, nn] [vI (cI 6), vR 549 0] s10) (fun _ => rfl) ?_
  refine rg_step 1 (G' := fun f => evC f 312 39 [oR 549 0, nn] [vR 553 0, vR 549 0] (s_make 1 6 s10)) (fun f => cv_newa (f := f) (M := 312) (pc := 37) (a := .int) (r := 1) hn rfl rfl rfl) (rc_ltM h fun s11 h => ?_)
  refine rg_step 1 (G' := fun f => evC f 312 42 [oR 549 0, nn] [] (wF s11 549 11)) (fun _ => rfl) (rc_ltM h fun s12 h => ?_)
  refine rc_gd h fun hn h => ?_
  refine rg_step 2 (G' := fun f => evC f 312 46 [oR 549 0, nn] [vI (cI 4096), vR 549 0] s12) (fun _ => rfl) ?_
  refine rg_step 1 (G' := fun f => evC f 312 48 [oR 549 0, nn] [vR 554 0, vR 549 0] (s_make 1 4096 s12)) (fun f => cv_newa (f := f) (M := 312) (pc := 46) (a := .byte) (r := 2) hn rfl rfl rfl) (rc_ltM h fun s13 h => ?_)
  refine rg_step 1 (G' := fun f => evC f 312 51 [oR 549 0, nn] [] (wF s13 549 12)) (fun _ => rfl) (rc_ltM h fun s14 h => ?_)
  refine rc_gd h fun hn h => ?_
  refine rg_step 2 (G' := fun f => evC f 312 55 [oR 549 0, nn] [vI (cI 151), vR 549 0] s14) (fun _ => rfl) ?_
  refine rg_step 1 (G' := fun f => evC f 312 57 [oR 549 0, nn] [vR 555 0, vR 549 0] (s_make 1 151 s14)) (fun f => cv_newa (f := f) (M := 312) (pc := 55) (a := .boolean) (r := 3) hn rfl rfl rfl) (rc_ltM h fun s15 h => ?_)
  refine rg_step 1 (G' := fun f => evC f 312 60 [oR 549 0, nn] [] (wF s15 549 17)) (fun _ => rfl) (rc_ltM h fun s16 h => ?_)
  refine rc_gd h fun hn h => ?_
  refine rg_step 2 (G' := fun f => evC f 312 64 [oR 549 0, nn] [vI (cI 256), vR 549 0] s16) (fun _ => rfl) ?_
  refine rg_step 1 (G' := fun f => evC f 312 66 [oR 549 0, nn] [vR 556 0, vR 549 0] (s_make 1 256 s16)) (fun f => cv_newa (f := f) (M := 312) (pc := 64) (a := .byte) (r := 2) hn rfl rfl rfl) (rc_ltM h fun s17 h => ?_)
  refine rg_step 1 (G' := fun f => evC f 312 69 [oR 549 0, nn] [] (wF s17 549 18)) (fun _ => rfl) (rc_ltM h fun s18 h => ?_)
  refine rc_gd h fun hn h => ?_
  refine rg_step 2 (G' := fun f => evC f 312 72 [oR 549 0, nn] [vI (cI 37200), vR 549 0] s18) (fun _ => rfl) ?_
  refine rg_step 1 (G' := fun f => evC f 312 74 [oR 549 0, nn] [vR 557 0, vR 549 0] (s_make 1 37200 s18)) (fun f => cv_newa (f := f) (M := 312) (pc := 72) (a := .byte) (r := 2) hn rfl rfl rfl) (rc_ltM h fun s19 h => ?_)
  refine rg_step 1 (G' := fun f => evC f 312 77 [oR 549 0, nn] [] (wF s19 549 19)) (fun _ => rfl) (rc_ltM h fun s20 h => ?_)
  refine rc_gd h fun hn h => ?_
  refine rg_step 2 (G' := fun f => evC f 312 80 [oR 549 0, nn] [vI (cI 12), vR 549 0] s20) (fun _ => rfl) ?_
  refine rg_step 1 (G' := fun f => evC f 312 82 [oR 549 0, nn] [vR 558 0, vR 549 0] (s_make 1 12 s20)) (fun f => cv_newa (f := f) (M := 312) (pc := 80) (a := .int) (r := 1) hn rfl rfl rfl) (rc_ltM h fun s21 h => ?_)
  refine rg_step 1 (G' := fun f => evC f 312 85 [oR 549 0, nn] [] (wF s21 549 25)) (fun _ => rfl) (rc_ltM h fun s22 h => ?_)
  refine rc_gd h fun hn h => ?_
  refine rg_step 2 (G' := fun f => evC f 312 88 [oR 549 0, nn] [vI (cI 12), vR 549 0] s22) (fun _ => rfl) ?_
  refine rg_step 1 (G' := fun f => evC f 312 90 [oR 549 0, nn] [vR 559 0, vR 549 0] (s_make 1 12 s22)) (fun f => cv_newa (f := f) (M := 312) (pc := 88) (a := .long) (r := 4) hn rfl rfl rfl) (rc_ltM h fun s23 h => ?_)
  refine rg_step 1 (G' := fun f => evC f 312 93 [oR 549 0, nn] [] (wF s23 549 26)) (fun _ => rfl) (rc_ltM h fun s24 h => ?_)
  refine rc_gd h fun hn h => ?_
  refine rg_step 2 (G' := fun f => evC f 312 96 [oR 549 0, nn] [vI (cI 30), vR 549 0] s24) (fun _ => rfl) ?_
  refine rg_step 1 (G' := fun f => evC f 312 98 [oR 549 0, nn] [vR 560 0, vR 549 0] (s_make 1 30 s24)) (fun f => cv_newa (f := f) (M := 312) (pc := 96) (a := .int) (r := 1) hn rfl rfl rfl) (rc_ltM h fun s25 h => ?_)
  refine rg_step 1 (G' := fun f => evC f 312 101 [oR 549 0, nn] [] (wF s25 549 28)) (fun _ => rfl) (rc_ltM h fun s26 h => ?_)
  refine rc_gd h fun hn h => ?_
  refine rg_step 2 (G' := fun f => evC f 312 104 [oR 549 0, nn] [vI (cI 30), vR 549 0] s26) (fun _ => rfl) ?_
  refine rg_step 1 (G' := fun f => evC f 312 106 [oR 549 0, nn] [vR 561 0, vR 549 0] (s_make 1 30 s26)) (fun f => cv_newa (f := f) (M := 312) (pc := 104) (a := .long) (r := 4) hn rfl rfl rfl) (rc_ltM h fun s27 h => ?_)
  refine rg_step 1 (G' := fun f => evC f 312 109 [oR 549 0, nn] [] (wF s27 549 29)) (fun _ => rfl) (rc_ltM h fun s28 h => ?_)
  refine rc_gd h fun hn h => ?_
  refine rg_step 2 (G' := fun f => evC f 312 112 [oR 549 0, nn] [vI (cI 30), vR 549 0] s28) (fun _ => rfl) ?_
  refine rg_step 1 (G' := fun f => evC f 312 114 [oR 549 0, nn] [vR 562 0, vR 549 0] (s_make 1 30 s28)) (fun f => cv_newa (f := f) (M := 312) (pc := 112) (a := .int) (r := 1) hn rfl rfl rfl) (rc_ltM h fun s29 h => ?_)
  refine rg_step 1 (G' := fun f => evC f 312 117 [oR 549 0, nn] [] (wF s29 549 30)) (fun _ => rfl) (rc_ltM h fun s30 h => ?_)
  refine rc_gd h fun hn h => ?_
  refine rg_step 2 (G' := fun f => evC f 312 120 [oR 549 0, nn] [vI (cI 30), vR 549 0] s30) (fun _ => rfl) ?_
  refine rg_step 1 (G' := fun f => evC f 312 122 [oR 549 0, nn] [vR 563 0, vR 549 0] (s_make 1 30 s30)) (fun f => cv_newa (f := f) (M := 312) (pc := 120) (a := .int) (r := 1) hn rfl rfl rfl) (rc_ltM h fun s31 h => ?_)
  refine rg_step 1 (G' := fun f => evC f 312 125 [oR 549 0, nn] [] (wF s31 549 31)) (fun _ => rfl) (rc_ltM h fun s32 h => ?_)
  refine rc_gd h fun hn h => ?_
  refine rg_step 2 (G' := fun f => evC f 312 128 [oR 549 0, nn] [vI (cI 30), vR 549 0] s32) (fun _ => rfl) ?_
  refine rg_step 1 (G' := fun f => evC f 312 130 [oR 549 0, nn] [vR 564 0, vR 549 0] (s_make 1 30 s32)) (fun f => cv_newa (f := f) (M := 312) (pc := 128) (a := .int) (r := 1) hn rfl rfl rfl) (rc_ltM h fun s33 h => ?_)
  refine rg_step 1 (G' := fun f => evC f 312 133 [oR 549 0, nn] [] (wF s33 549 32)) (fun _ => rfl) (rc_ltM h fun s34 h => ?_)
  refine rc_gd h fun hn h => ?_
  refine rg_step 2 (G' := fun f => evC f 312 136 [oR 549 0, nn] [vI (cI 60), vR 549 0] s34) (fun _ => rfl) ?_
  refine rg_step 1 (G' := fun f => evC f 312 138 [oR 549 0, nn] [vR 565 0, vR 549 0] (s_make 1 60 s34)) (fun f => cv_newa (f := f) (M := 312) (pc := 136) (a := .int) (r := 1) hn rfl rfl rfl) (rc_ltM h fun s35 h => ?_)
  refine rg_step 1 (G' := fun f => evC f 312 141 [oR 549 0, nn] [] (wF s35 549 34)) (fun _ => rfl) (rc_ltM h fun s36 h => ?_)
  refine rc_gd h fun hn h => ?_
  refine rg_step 2 (G' := fun f => evC f 312 144 [oR 549 0, nn] [vI (cI 60), vR 549 0] s36) (fun _ => rfl) ?_
  refine rg_step 1 (G' := fun f => evC f 312 146 [oR 549 0, nn] [vR 566 0, vR 549 0] (s_make 1 60 s36)) (fun f => cv_newa (f := f) (M := 312) (pc := 144) (a := .int) (r := 1) hn rfl rfl rfl) (rc_ltM h fun s37 h => ?_)
  refine rg_step 1 (G' := fun f => evC f 312 149 [oR 549 0, nn] [] (wF s37 549 35)) (fun _ => rfl) (rc_ltM h fun s38 h => ?_)
  refine rc_gd h fun hn h => ?_
  refine rg_step 2 (G' := fun f => evC f 312 152 [oR 549 0, nn] [vI (cI 60), vR 549 0] s38) (fun _ => rfl) ?_
  refine rg_step 1 (G' := fun f => evC f 312 154 [oR 549 0, nn] [vR 567 0, vR 549 0] (s_make 1 60 s38)) (fun f => cv_newa (f := f) (M := 312) (pc := 152) (a := .int) (r := 1) hn rfl rfl rfl) (rc_ltM h fun s39 h => ?_)
  refine rg_step 1 (G' := fun f => evC f 312 157 [oR 549 0, nn] [] (wF s39 549 36)) (fun _ => rfl) (rc_ltM h fun s40 h => ?_)
  refine rc_gd h fun hn h => ?_
  refine rg_step 2 (G' := fun f => evC f 312 160 [oR 549 0, nn] [vI (cI 60), vR 549 0] s40) (fun _ => rfl) ?_
  refine rg_step 1 (G' := fun f => evC f 312 162 [oR 549 0, nn] [vR 568 0, vR 549 0] (s_make 1 60 s40)) (fun f => cv_newa (f := f) (M := 312) (pc := 160) (a := .int) (r := 1) hn rfl rfl rfl) (rc_ltM h fun s41 h => ?_)
  refine rg_step 1 (G' := fun f => evC f 312 165 [oR 549 0, nn] [] (wF s41 549 37)) (fun _ => rfl) (rc_ltM h fun s42 h => ?_)
  refine rc_gd h fun hn h => ?_
  refine rg_step 2 (G' := fun f => evC f 312 168 [oR 549 0, nn] [vI (cI 120), vR 549 0] s42) (fun _ => rfl) ?_
  refine rg_step 1 (G' := fun f => evC f 312 170 [oR 549 0, nn] [vR 569 0, vR 549 0] (s_make 1 120 s42)) (fun f => cv_newa (f := f) (M := 312) (pc := 168) (a := .int) (r := 1) hn rfl rfl rfl) (rc_ltM h fun s43 h => ?_)
  refine rg_step 1 (G' := fun f => evC f 312 173 [oR 549 0, nn] [] (wF s43 549 39)) (fun _ => rfl) (rc_ltM h fun s44 h => ?_)
  refine rc_gd h fun hn h => ?_
  refine rg_step 2 (G' := fun f => evC f 312 176 [oR 549 0, nn] [vI (cI 120), vR 549 0] s44) (fun _ => rfl) ?_
  refine rg_step 1 (G' := fun f => evC f 312 178 [oR 549 0, nn] [vR 570 0, vR 549 0] (s_make 1 120 s44)) (fun f => cv_newa (f := f) (M := 312) (pc := 176) (a := .int) (r := 1) hn rfl rfl rfl) (rc_ltM h fun s45 h => ?_)
  refine rg_step 1 (G' := fun f => evC f 312 181 [oR 549 0, nn] [] (wF s45 549 40)) (fun _ => rfl) (rc_ltM h fun s46 h => ?_)
  refine rc_gd h fun hn h => ?_
  refine rg_step 2 (G' := fun f => evC f 312 184 [oR 549 0, nn] [vI (cI 120), vR 549 0] s46) (fun _ => rfl) ?_
  refine rg_step 1 (G' := fun f => evC f 312 186 [oR 549 0, nn] [vR 571 0, vR 549 0] (s_make 1 120 s46)) (fun f => cv_newa (f := f) (M := 312) (pc := 184) (a := .int) (r := 1) hn rfl rfl rfl) (rc_ltM h fun s47 h => ?_)
  refine rg_step 1 (G' := fun f => evC f 312 189 [oR 549 0, nn] [] (wF s47 549 41)) (fun _ => rfl) (rc_ltM h fun s48 h => ?_)
  refine rc_gd h fun hn h => ?_
  refine rg_step 2 (G' := fun f => evC f 312 192 [oR 549 0, nn] [vI (cI 120), vR 549 0] s48) (fun _ => rfl) ?_
  refine rg_step 1 (G' := fun f => evC f 312 194 [oR 549 0, nn] [vR 572 0, vR 549 0] (s_make 1 120 s48)) (fun f => cv_newa (f := f) (M := 312) (pc := 192) (a := .int) (r := 1) hn rfl rfl rfl) (rc_ltM h fun s49 h => ?_)
  refine rg_step 1 (G' := fun f => evC f 312 197 [oR 549 0, nn] [] (wF s49 549 42)) (fun _ => rfl) (rc_ltM h fun s50 h => ?_)
  refine rc_gd h fun hn h => ?_
  refine rg_step 2 (G' := fun f => evC f 312 200 [oR 549 0, nn] [vI (cI 60), vR 549 0] s50) (fun _ => rfl) ?_
  refine rg_step 1 (G' := fun f => evC f 312 202 [oR 549 0, nn] [vR 573 0, vR 549 0] (s_make 1 60 s50)) (fun f => cv_newa (f := f) (M := 312) (pc := 200) (a := .int) (r := 1) hn rfl rfl rfl) (rc_ltM h fun s51 h => ?_)
  refine rg_step 1 (G' := fun f => evC f 312 205 [oR 549 0, nn] [] (wF s51 549 44)) (fun _ => rfl) (rc_ltM h fun s52 h => ?_)
  refine rc_gd h fun hn h => ?_
  refine rg_step 2 (G' := fun f => evC f 312 208 [oR 549 0, nn] [vI (cI 60), vR 549 0] s52) (fun _ => rfl) ?_
  refine rg_step 1 (G' := fun f => evC f 312 210 [oR 549 0, nn] [vR 574 0, vR 549 0] (s_make 1 60 s52)) (fun f => cv_newa (f := f) (M := 312) (pc := 208) (a := .int) (r := 1) hn rfl rfl rfl) (rc_ltM h fun s53 h => ?_)
  refine rg_step 1 (G' := fun f => evC f 312 213 [oR 549 0, nn] [] (wF s53 549 45)) (fun _ => rfl) (rc_ltM h fun s54 h => ?_)
  refine rc_gd h fun hn h => ?_
  refine rg_step 2 (G' := fun f => evC f 312 216 [oR 549 0, nn] [vI (cI 60), vR 549 0] s54) (fun _ => rfl) ?_
  refine rg_step 1 (G' := fun f => evC f 312 218 [oR 549 0, nn] [vR 575 0, vR 549 0] (s_make 1 60 s54)) (fun f => cv_newa (f := f) (M := 312) (pc := 216) (a := .int) (r := 1) hn rfl rfl rfl) (rc_ltM h fun s55 h => ?_)
  refine rg_step 1 (G' := fun f => evC f 312 221 [oR 549 0, nn] [] (wF s55 549 46)) (fun _ => rfl) (rc_ltM h fun s56 h => ?_)
  refine rc_gd h fun hn h => ?_
  refine rg_step 2 (G' := fun f => evC f 312 224 [oR 549 0, nn] [vI (cI 60), vR 549 0] s56) (fun _ => rfl) ?_
  refine rg_step 1 (G' := fun f => evC f 312 226 [oR 549 0, nn] [vR 576 0, vR 549 0] (s_make 1 60 s56)) (fun f => cv_newa (f := f) (M := 312) (pc := 224) (a := .int) (r := 1) hn rfl rfl rfl) (rc_ltM h fun s57 h => ?_)
  refine rg_step 1 (G' := fun f => evC f 312 229 [oR 549 0, nn] [] (wF s57 549 47)) (fun _ => rfl) (rc_ltM h fun s58 h => ?_)
  refine rc_gd h fun hn h => ?_
  refine rg_step 2 (G' := fun f => evC f 312 232 [oR 549 0, nn] [vI (cI 11), vR 549 0] s58) (fun _ => rfl) ?_
  refine rg_step 1 (G' := fun f => evC f 312 234 [oR 549 0, nn] [vR 577 0, vR 549 0] (s_make 1 11 s58)) (fun f => cv_newa (f := f) (M := 312) (pc := 232) (a := .int) (r := 1) hn rfl rfl rfl) (rc_ltM h fun s59 h => ?_)
  refine rg_step 1 (G' := fun f => evC f 312 237 [oR 549 0, nn] [] (wF s59 549 52)) (fun _ => rfl) (rc_ltM h fun s60 h => ?_)
  refine rc_gd h fun hn h => ?_
  refine rg_step 2 (G' := fun f => evC f 312 241 [oR 549 0, nn] [vI (cI 200), vR 549 0] s60) (fun _ => rfl) ?_
  refine rg_step 1 (G' := fun f => evC f 312 243 [oR 549 0, nn] [vR 578 0, vR 549 0] (s_make 1 200 s60)) (fun f => cv_newa (f := f) (M := 312) (pc := 241) (a := .int) (r := 1) hn rfl rfl rfl) (rc_ltM h fun s61 h => ?_)
  refine rg_step 1 (G' := fun f => evC f 312 246 [oR 549 0, nn] [] (wF s61 549 53)) (fun _ => rfl) (rc_ltM h fun s62 h => ?_)
  refine rc_gd h fun hn h => ?_
  refine rg_step 2 (G' := fun f => evC f 312 250 [oR 549 0, nn] [vI (cI 200), vR 549 0] s62) (fun _ => rfl) ?_
  refine rg_step 1 (G' := fun f => evC f 312 252 [oR 549 0, nn] [vR 579 0, vR 549 0] (s_make 1 200 s62)) (fun f => cv_newa (f := f) (M := 312) (pc := 250) (a := .int) (r := 1) hn rfl rfl rfl) (rc_ltM h fun s63 h => ?_)
  refine rg_step 1 (G' := fun f => evC f 312 255 [oR 549 0, nn] [] (wF s63 549 54)) (fun _ => rfl) (rc_ltM h fun s64 h => ?_)
  refine rc_gd h fun hn h => ?_
  refine rg_step 2 (G' := fun f => evC f 312 259 [oR 549 0, nn] [vI (cI 200), vR 549 0] s64) (fun _ => rfl) ?_
  refine rg_step 1 (G' := fun f => evC f 312 261 [oR 549 0, nn] [vR 580 0, vR 549 0] (s_make 1 200 s64)) (fun f => cv_newa (f := f) (M := 312) (pc := 259) (a := .int) (r := 1) hn rfl rfl rfl) (rc_ltM h fun s65 h => ?_)
  refine rg_step 1 (G' := fun f => evC f 312 264 [oR 549 0, nn] [] (wF s65 549 55)) (fun _ => rfl) (rc_ltM h fun s66 h => ?_)
  refine rc_gd h fun hn h => ?_
  refine rg_step 2 (G' := fun f => evC f 312 268 [oR 549 0, nn] [vI (cI 200), vR 549 0] s66) (fun _ => rfl) ?_
  refine rg_step 1 (G' := fun f => evC f 312 270 [oR 549 0, nn] [vR 581 0, vR 549 0] (s_make 1 200 s66)) (fun f => cv_newa (f := f) (M := 312) (pc := 268) (a := .int) (r := 1) hn rfl rfl rfl) (rc_ltM h fun s67 h => ?_)
  refine rg_step 1 (G' := fun f => evC f 312 273 [oR 549 0, nn] [] (wF s67 549 56)) (fun _ => rfl) (rc_ltM h fun s68 h => ?_)
  refine rc_gd h fun hn h => ?_
  refine rg_step 2 (G' := fun f => evC f 312 277 [oR 549 0, nn] [vI (cI 200), vR 549 0] s68) (fun _ => rfl) ?_
  refine rg_step 1 (G' := fun f => evC f 312 279 [oR 549 0, nn] [vR 582 0, vR 549 0] (s_make 1 200 s68)) (fun f => cv_newa (f := f) (M := 312) (pc := 277) (a := .int) (r := 1) hn rfl rfl rfl) (rc_ltM h fun s69 h => ?_)
  refine rg_step 1 (G' := fun f => evC f 312 282 [oR 549 0, nn] [] (wF s69 549 57)) (fun _ => rfl) (rc_ltM h fun s70 h => ?_)
  refine rc_gd h fun hn h => ?_
  refine rg_step 2 (G' := fun f => evC f 312 286 [oR 549 0, nn] [vI (cI 300), vR 549 0] s70) (fun _ => rfl) ?_
  refine rg_step 1 (G' := fun f => evC f 312 288 [oR 549 0, nn] [vR 583 0, vR 549 0] (s_make 1 300 s70)) (fun f => cv_newa (f := f) (M := 312) (pc := 286) (a := .int) (r := 1) hn rfl rfl rfl) (rc_ltM h fun s71 h => ?_)
  refine rg_step 1 (G' := fun f => evC f 312 291 [oR 549 0, nn] [] (wF s71 549 59)) (fun _ => rfl) (rc_ltM h fun s72 h => ?_)
  refine rc_gd h fun hn h => ?_
  refine rg_step 2 (G' := fun f => evC f 312 295 [oR 549 0, nn] [vI (cI 300), vR 549 0] s72) (fun _ => rfl) ?_
  refine rg_step 1 (G' := fun f => evC f 312 297 [oR 549 0, nn] [vR 584 0, vR 549 0] (s_make 1 300 s72)) (fun f => cv_newa (f := f) (M := 312) (pc := 295) (a := .int) (r := 1) hn rfl rfl rfl) (rc_ltM h fun s73 h => ?_)
  refine rg_step 1 (G' := fun f => evC f 312 300 [oR 549 0, nn] [] (wF s73 549 60)) (fun _ => rfl) (rc_ltM h fun s74 h => ?_)
  refine rc_gd h fun hn h => ?_
  refine rg_step 2 (G' := fun f => evC f 312 304 [oR 549 0, nn] [vI (cI 300), vR 549 0] s74) (fun _ => rfl) ?_
  refine rg_step 1 (G' := fun f => evC f 312 306 [oR 549 0, nn] [vR 585 0, vR 549 0] (s_make 1 300 s74)) (fun f => cv_newa (f := f) (M := 312) (pc := 304) (a := .int) (r := 1) hn rfl rfl rfl) (rc_ltM h fun s75 h => ?_)
  refine rg_step 1 (G' := fun f => evC f 312 309 [oR 549 0, nn] [] (wF s75 549 61)) (fun _ => rfl) (rc_ltM h fun s76 h => ?_)
  refine rc_gd h fun hn h => ?_
  refine rg_step 2 (G' := fun f => evC f 312 313 [oR 549 0, nn] [vI (cI 300), vR 549 0] s76) (fun _ => rfl) ?_
  refine rg_step 1 (G' := fun f => evC f 312 315 [oR 549 0, nn] [vR 586 0, vR 549 0] (s_make 1 300 s76)) (fun f => cv_newa (f := f) (M := 312) (pc := 313) (a := .int) (r := 1) hn rfl rfl rfl) (rc_ltM h fun s77 h => ?_)
  refine rg_step 1 (G' := fun f => evC f 312 318 [oR 549 0, nn] [] (wF s77 549 62)) (fun _ => rfl) (rc_ltM h fun s78 h => ?_)
  refine rc_gd h fun hn h => ?_
  refine rg_step 2 (G' := fun f => evC f 312 322 [oR 549 0, nn] [vI (cI 300), vR 549 0] s78) (fun _ => rfl) ?_
  refine rg_step 1 (G' := fun f => evC f 312 324 [oR 549 0, nn] [vR 587 0, vR 549 0] (s_make 1 300 s78)) (fun f => cv_newa (f := f) (M := 312) (pc := 322) (a := .int) (r := 1) hn rfl rfl rfl) (rc_ltM h fun s79 h => ?_)
  refine rg_step 1 (G' := fun f => evC f 312 327 [oR 549 0, nn] [] (wF s79 549 63)) (fun _ => rfl) (rc_ltM h fun s80 h => ?_)
  refine rc_gd h fun hn h => ?_
  refine rg_step 2 (G' := fun f => evC f 312 331 [oR 549 0, nn] [vI (cI 300), vR 549 0] s80) (fun _ => rfl) ?_
  refine rg_step 1 (G' := fun f => evC f 312 333 [oR 549 0, nn] [vR 588 0, vR 549 0] (s_make 1 300 s80)) (fun f => cv_newa (f := f) (M := 312) (pc := 331) (a := .int) (r := 1) hn rfl rfl rfl) (rc_ltM h fun s81 h => ?_)
  refine rg_step 1 (G' := fun f => evC f 312 336 [oR 549 0, nn] [] (wF s81 549 64)) (fun _ => rfl) (rc_ltM h fun s82 h => ?_)
  refine rc_gd h fun hn h => ?_
  refine rg_step 2 (G' := fun f => evC f 312 340 [oR 549 0, nn] [vI (cI 300), vR 549 0] s82) (fun _ => rfl) ?_
  refine rg_step 1 (G' := fun f => evC f 312 342 [oR 549 0, nn] [vR 589 0, vR 549 0] (s_make 1 300 s82)) (fun f => cv_newa (f := f) (M := 312) (pc := 340) (a := .int) (r := 1) hn rfl rfl rfl) (rc_ltM h fun s83 h => ?_)
  refine rg_step 1 (G' := fun f => evC f 312 345 [oR 549 0, nn] [] (wF s83 549 65)) (fun _ => rfl) (rc_ltM h fun s84 h => ?_)
  refine rc_gd h fun hn h => ?_
  refine rg_step 2 (G' := fun f => evC f 312 349 [oR 549 0, nn] [vI (cI 300), vR 549 0] s84) (fun _ => rfl) ?_
  refine rg_step 1 (G' := fun f => evC f 312 351 [oR 549 0, nn] [vR 590 0, vR 549 0] (s_make 1 300 s84)) (fun f => cv_newa (f := f) (M := 312) (pc := 349) (a := .int) (r := 1) hn rfl rfl rfl) (rc_ltM h fun s85 h => ?_)
  refine rg_step 1 (G' := fun f => evC f 312 354 [oR 549 0, nn] [] (wF s85 549 66)) (fun _ => rfl) (rc_ltM h fun s86 h => ?_)
  refine rc_gd h fun hn h => ?_
  refine rg_step 2 (G' := fun f => evC f 312 358 [oR 549 0, nn] [vI (cI 300), vR 549 0] s86) (fun _ => rfl) ?_
  refine rg_step 1 (G' := fun f => evC f 312 360 [oR 549 0, nn] [vR 591 0, vR 549 0] (s_make 1 300 s86)) (fun f => cv_newa (f := f) (M := 312) (pc := 358) (a := .int) (r := 1) hn rfl rfl rfl) (rc_ltM h fun s87 h => ?_)
  refine rg_step 1 (G' := fun f => evC f 312 363 [oR 549 0, nn] [] (wF s87 549 67)) (fun _ => rfl) (rc_ltM h fun s88 h => ?_)
  refine rc_gd h fun hn h => ?_
  refine rg_step 2 (G' := fun f => evC f 312 367 [oR 549 0, nn] [vI (cI 300), vR 549 0] s88) (fun _ => rfl) ?_
  refine rg_step 1 (G' := fun f => evC f 312 369 [oR 549 0, nn] [vR 592 0, vR 549 0] (s_make 1 300 s88)) (fun f => cv_newa (f := f) (M := 312) (pc := 367) (a := .int) (r := 1) hn rfl rfl rfl) (rc_ltM h fun s89 h => ?_)
  refine rg_step 1 (G' := fun f => evC f 312 372 [oR 549 0, nn] [] (wF s89 549 68)) (fun _ => rfl) (rc_ltM h fun s90 h => ?_)
  refine rc_gd h fun hn h => ?_
  refine rg_step 2 (G' := fun f => evC f 312 376 [oR 549 0, nn] [vI (cI 300), vR 549 0] s90) (fun _ => rfl) ?_
  refine rg_step 1 (G' := fun f => evC f 312 378 [oR 549 0, nn] [vR 593 0, vR 549 0] (s_make 1 300 s90)) (fun f => cv_newa (f := f) (M := 312) (pc := 376) (a := .int) (r := 1) hn rfl rfl rfl) (rc_ltM h fun s91 h => ?_)
  refine rg_step 1 (G' := fun f => evC f 312 381 [oR 549 0, nn] [] (wF s91 549 69)) (fun _ => rfl) (rc_ltM h fun s92 h => ?_)
  refine rc_gd h fun hn h => ?_
  refine rg_step 2 (G' := fun f => evC f 312 385 [oR 549 0, nn] [vI (cI 300), vR 549 0] s92) (fun _ => rfl) ?_
  refine rg_step 1 (G' := fun f => evC f 312 387 [oR 549 0, nn] [vR 594 0, vR 549 0] (s_make 1 300 s92)) (fun f => cv_newa (f := f) (M := 312) (pc := 385) (a := .int) (r := 1) hn rfl rfl rfl) (rc_ltM h fun s93 h => ?_)
  refine rg_step 1 (G' := fun f => evC f 312 390 [oR 549 0, nn] [] (wF s93 549 70)) (fun _ => rfl) (rc_ltM h fun s94 h => ?_)
  refine rc_gd h fun hn h => ?_
  refine rg_step 2 (G' := fun f => evC f 312 394 [oR 549 0, nn] [vI (cI 300), vR 549 0] s94) (fun _ => rfl) ?_
  refine rg_step 1 (G' := fun f => evC f 312 396 [oR 549 0, nn] [vR 595 0, vR 549 0] (s_make 1 300 s94)) (fun f => cv_newa (f := f) (M := 312) (pc := 394) (a := .int) (r := 1) hn rfl rfl rfl) (rc_ltM h fun s95 h => ?_)
  refine rg_step 1 (G' := fun f => evC f 312 399 [oR 549 0, nn] [] (wF s95 549 71)) (fun _ => rfl) (rc_ltM h fun s96 h => ?_)
  refine rc_gd h fun hn h => ?_
  refine rg_step 2 (G' := fun f => evC f 312 403 [oR 549 0, nn] [vI (cI 300), vR 549 0] s96) (fun _ => rfl) ?_
  refine rg_step 1 (G' := fun f => evC f 312 405 [oR 549 0, nn] [vR 596 0, vR 549 0] (s_make 1 300 s96)) (fun f => cv_newa (f := f) (M := 312) (pc := 403) (a := .int) (r := 1) hn rfl rfl rfl) (rc_ltM h fun s97 h => ?_)
  refine rg_step 1 (G' := fun f => evC f 312 408 [oR 549 0, nn] [] (wF s97 549 72)) (fun _ => rfl) (rc_ltM h fun s98 h => ?_)
  refine rc_gd h fun hn h => ?_
  refine rg_step 2 (G' := fun f => evC f 312 412 [oR 549 0, nn] [vI (cI 300), vR 549 0] s98) (fun _ => rfl) ?_
  refine rg_step 1 (G' := fun f => evC f 312 414 [oR 549 0, nn] [vR 597 0, vR 549 0] (s_make 1 300 s98)) (fun f => cv_newa (f := f) (M := 312) (pc := 412) (a := .int) (r := 1) hn rfl rfl rfl) (rc_ltM h fun s99 h => ?_)
  refine rg_step 1 (G' := fun f => evC f 312 417 [oR 549 0, nn] [] (wF s99 549 73)) (fun _ => rfl) (rc_ltM h fun s100 h => ?_)
  refine rc_gd h fun hn h => ?_
  refine rg_step 2 (G' := fun f => evC f 312 421 [oR 549 0, nn] [vI (cI 300), vR 549 0] s100) (fun _ => rfl) ?_
  refine rg_step 1 (G' := fun f => evC f 312 423 [oR 549 0, nn] [vR 598 0, vR 549 0] (s_make 1 300 s100)) (fun f => cv_newa (f := f) (M := 312) (pc := 421) (a := .int) (r := 1) hn rfl rfl rfl) (rc_ltM h fun s101 h => ?_)
  refine rg_step 1 (G' := fun f => evC f 312 426 [oR 549 0, nn] [] (wF s101 549 74)) (fun _ => rfl) (rc_ltM h fun s102 h => ?_)
  refine rc_gd h fun hn h => ?_
  refine rg_step 2 (G' := fun f => evC f 312 430 [oR 549 0, nn] [vI (cI 300), vR 549 0] s102) (fun _ => rfl) ?_
  refine rg_step 1 (G' := fun f => evC f 312 432 [oR 549 0, nn] [vR 599 0, vR 549 0] (s_make 1 300 s102)) (fun f => cv_newa (f := f) (M := 312) (pc := 430) (a := .boolean) (r := 3) hn rfl rfl rfl) (rc_ltM h fun s103 h => ?_)
  refine rg_step 1 (G' := fun f => evC f 312 435 [oR 549 0, nn] [] (wF s103 549 75)) (fun _ => rfl) (rc_ltM h fun s104 h => ?_)
  refine rc_gd h fun hn h => ?_
  refine rg_step 2 (G' := fun f => evC f 312 439 [oR 549 0, nn] [vI (cI 300), vR 549 0] s104) (fun _ => rfl) ?_
  refine rg_step 1 (G' := fun f => evC f 312 441 [oR 549 0, nn] [vR 600 0, vR 549 0] (s_make 1 300 s104)) (fun f => cv_newa (f := f) (M := 312) (pc := 439) (a := .int) (r := 1) hn rfl rfl rfl) (rc_ltM h fun s105 h => ?_)
  refine rg_step 1 (G' := fun f => evC f 312 444 [oR 549 0, nn] [] (wF s105 549 76)) (fun _ => rfl) (rc_ltM h fun s106 h => ?_)
  refine rc_gd h fun hn h => ?_
  refine rg_step 2 (G' := fun f => evC f 312 448 [oR 549 0, nn] [vI (cI 300), vR 549 0] s106) (fun _ => rfl) ?_
  refine rg_step 1 (G' := fun f => evC f 312 450 [oR 549 0, nn] [vR 601 0, vR 549 0] (s_make 1 300 s106)) (fun f => cv_newa (f := f) (M := 312) (pc := 448) (a := .int) (r := 1) hn rfl rfl rfl) (rc_ltM h fun s107 h => ?_)
  refine rg_step 1 (G' := fun f => evC f 312 453 [oR 549 0, nn] [] (wF s107 549 77)) (fun _ => rfl) (rc_ltM h fun s108 h => ?_)
  refine rc_gd h fun hn h => ?_
  refine rg_step 2 (G' := fun f => evC f 312 457 [oR 549 0, nn] [vI (cI 300), vR 549 0] s108) (fun _ => rfl) ?_
  refine rg_step 1 (G' := fun f => evC f 312 459 [oR 549 0, nn] [vR 602 0, vR 549 0] (s_make 1 300 s108)) (fun f => cv_newa (f := f) (M := 312) (pc := 457) (a := .int) (r := 1) hn rfl rfl rfl) (rc_ltM h fun s109 h => ?_)
  refine rg_step 1 (G' := fun f => evC f 312 462 [oR 549 0, nn] [] (wF s109 549 78)) (fun _ => rfl) (rc_ltM h fun s110 h => ?_)
  refine rc_gd h fun hn h => ?_
  refine rg_step 2 (G' := fun f => evC f 312 466 [oR 549 0, nn] [vI (cI 300), vR 549 0] s110) (fun _ => rfl) ?_
  refine rg_step 1 (G' := fun f => evC f 312 468 [oR 549 0, nn] [vR 603 0, vR 549 0] (s_make 1 300 s110)) (fun f => cv_newa (f := f) (M := 312) (pc := 466) (a := .boolean) (r := 3) hn rfl rfl rfl) (rc_ltM h fun s111 h => ?_)
  refine rg_step 1 (G' := fun f => evC f 312 471 [oR 549 0, nn] [] (wF s111 549 79)) (fun _ => rfl) (rc_ltM h fun s112 h => ?_)
  refine rc_gd h fun hn h => ?_
  refine rg_step 2 (G' := fun f => evC f 312 475 [oR 549 0, nn] [vI (cI 300), vR 549 0] s112) (fun _ => rfl) ?_
  refine rg_step 1 (G' := fun f => evC f 312 477 [oR 549 0, nn] [vR 604 0, vR 549 0] (s_make 1 300 s112)) (fun f => cv_newa (f := f) (M := 312) (pc := 475) (a := .int) (r := 1) hn rfl rfl rfl) (rc_ltM h fun s113 h => ?_)
  refine rg_step 1 (G' := fun f => evC f 312 480 [oR 549 0, nn] [] (wF s113 549 80)) (fun _ => rfl) (rc_ltM h fun s114 h => ?_)
  refine rc_gd h fun hn h => ?_
  refine rg_step 2 (G' := fun f => evC f 312 484 [oR 549 0, nn] [vI (cI 900), vR 549 0] s114) (fun _ => rfl) ?_
  refine rg_step 1 (G' := fun f => evC f 312 486 [oR 549 0, nn] [vR 605 0, vR 549 0] (s_make 1 900 s114)) (fun f => cv_newa (f := f) (M := 312) (pc := 484) (a := .int) (r := 1) hn rfl rfl rfl) (rc_ltM h fun s115 h => ?_)
  refine rg_step 1 (G' := fun f => evC f 312 489 [oR 549 0, nn] [] (wF s115 549 81)) (fun _ => rfl) (rc_ltM h fun s116 h => ?_)
  refine rc_gd h fun hn h => ?_
  refine rg_step 2 (G' := fun f => evC f 312 493 [oR 549 0, nn] [vI (cI 900), vR 549 0] s116) (fun _ => rfl) ?_
  refine rg_step 1 (G' := fun f => evC f 312 495 [oR 549 0, nn] [vR 606 0, vR 549 0] (s_make 1 900 s116)) (fun f => cv_newa (f := f) (M := 312) (pc := 493) (a := .int) (r := 1) hn rfl rfl rfl) (rc_ltM h fun s117 h => ?_)
  refine rg_step 1 (G' := fun f => evC f 312 498 [oR 549 0, nn] [] (wF s117 549 82)) (fun _ => rfl) (rc_ltM h fun s118 h => ?_)
  refine rc_gd h fun hn h => ?_
  refine rg_step 2 (G' := fun f => evC f 312 501 [oR 549 0, nn] [vI (cI 12), vR 549 0] s118) (fun _ => rfl) ?_
  refine rg_step 1 (G' := fun f => evC f 312 503 [oR 549 0, nn] [vR 607 0, vR 549 0] (s_make 1 12 s118)) (fun f => cv_newa (f := f) (M := 312) (pc := 501) (a := .int) (r := 1) hn rfl rfl rfl) (rc_ltM h fun s119 h => ?_)
  refine rg_step 1 (G' := fun f => evC f 312 506 [oR 549 0, nn] [] (wF s119 549 88)) (fun _ => rfl) (rc_ltM h fun s120 h => ?_)
  refine rc_gd h fun hn h => ?_
  refine rg_step 2 (G' := fun f => evC f 312 509 [oR 549 0, nn] [vI (cI 12), vR 549 0] s120) (fun _ => rfl) ?_
  refine rg_step 1 (G' := fun f => evC f 312 511 [oR 549 0, nn] [vR 608 0, vR 549 0] (s_make 1 12 s120)) (fun f => cv_newa (f := f) (M := 312) (pc := 509) (a := .int) (r := 1) hn rfl rfl rfl) (rc_ltM h fun s121 h => ?_)
  refine rg_step 1 (G' := fun f => evC f 312 514 [oR 549 0, nn] [] (wF s121 549 89)) (fun _ => rfl) (rc_ltM h fun s122 h => ?_)
  refine rc_gd h fun hn h => ?_
  refine rg_step 2 (G' := fun f => evC f 312 517 [oR 549 0, nn] [vI (cI 12), vR 549 0] s122) (fun _ => rfl) ?_
  refine rg_step 1 (G' := fun f => evC f 312 519 [oR 549 0, nn] [vR 609 0, vR 549 0] (s_make 1 12 s122)) (fun f => cv_newa (f := f) (M := 312) (pc := 517) (a := .int) (r := 1) hn rfl rfl rfl) (rc_ltM h fun s123 h => ?_)
  refine rg_step 1 (G' := fun f => evC f 312 522 [oR 549 0, nn] [] (wF s123 549 90)) (fun _ => rfl) (rc_ltM h fun s124 h => ?_)
  refine rc_gd h fun hn h => ?_
  refine rg_step 2 (G' := fun f => evC f 312 526 [oR 549 0, nn] [vI (cI 300), vR 549 0] s124) (fun _ => rfl) ?_
  refine rg_step 1 (G' := fun f => evC f 312 528 [oR 549 0, nn] [vR 610 0, vR 549 0] (s_make 1 300 s124)) (fun f => cv_newa (f := f) (M := 312) (pc := 526) (a := .boolean) (r := 3) hn rfl rfl rfl) (rc_ltM h fun s125 h => ?_)
  refine rg_step 1 (G' := fun f => evC f 312 531 [oR 549 0, nn] [] (wF s125 549 92)) (fun _ => rfl) (rc_ltM h fun s126 h => ?_)
  refine rc_gd h fun hn h => ?_
  refine rg_step 2 (G' := fun f => evC f 312 534 [oR 549 0, nn] [vI (cI 20), vR 549 0] s126) (fun _ => rfl) ?_
  refine rg_step 1 (G' := fun f => evC f 312 536 [oR 549 0, nn] [vR 611 0, vR 549 0] (s_make 1 20 s126)) (fun f => cv_newa (f := f) (M := 312) (pc := 534) (a := .int) (r := 1) hn rfl rfl rfl) (rc_ltM h fun s127 h => ?_)
  refine rg_step 1 (G' := fun f => evC f 312 539 [oR 549 0, nn] [] (wF s127 549 94)) (fun _ => rfl) (rc_ltM h fun s128 h => ?_)
  refine rc_gd h fun hn h => ?_
  refine rg_step 2 (G' := fun f => evC f 312 542 [oR 549 0, nn] [vI (cI 20), vR 549 0] s128) (fun _ => rfl) ?_
  refine rg_step 1 (G' := fun f => evC f 312 544 [oR 549 0, nn] [vR 612 0, vR 549 0] (s_make 1 20 s128)) (fun f => cv_newa (f := f) (M := 312) (pc := 542) (a := .int) (r := 1) hn rfl rfl rfl) (rc_ltM h fun s129 h => ?_)
  refine rg_step 1 (G' := fun f => evC f 312 547 [oR 549 0, nn] [] (wF s129 549 95)) (fun _ => rfl) (rc_ltM h fun s130 h => ?_)
  refine rc_gd h fun hn h => ?_
  refine rg_step 2 (G' := fun f => evC f 312 550 [oR 549 0, nn] [vI (cI 20), vR 549 0] s130) (fun _ => rfl) ?_
  refine rg_step 1 (G' := fun f => evC f 312 552 [oR 549 0, nn] [vR 613 0, vR 549 0] (s_make 1 20 s130)) (fun f => cv_newa (f := f) (M := 312) (pc := 550) (a := .int) (r := 1) hn rfl rfl rfl) (rc_ltM h fun s131 h => ?_)
  refine rg_step 1 (G' := fun f => evC f 312 555 [oR 549 0, nn] [] (wF s131 549 96)) (fun _ => rfl) (rc_ltM h fun s132 h => ?_)
  refine rc_gd h fun hn h => ?_
  refine rg_step 2 (G' := fun f => evC f 312 558 [oR 549 0, nn] [vI (cI 20), vR 549 0] s132) (fun _ => rfl) ?_
  refine rg_step 1 (G' := fun f => evC f 312 560 [oR 549 0, nn] [vR 614 0, vR 549 0] (s_make 1 20 s132)) (fun f => cv_newa (f := f) (M := 312) (pc := 558) (a := .int) (r := 1) hn rfl rfl rfl) (rc_ltM h fun s133 h => ?_)
  refine rg_step 1 (G' := fun f => evC f 312 563 [oR 549 0, nn] [] (wF s133 549 97)) (fun _ => rfl) (rc_ltM h fun s134 h => ?_)
  refine rc_gd h fun hn h => ?_
  refine rg_step 2 (G' := fun f => evC f 312 566 [oR 549 0, nn] [vI (cI 20), vR 549 0] s134) (fun _ => rfl) ?_
  refine rg_step 1 (G' := fun f => evC f 312 568 [oR 549 0, nn] [vR 615 0, vR 549 0] (s_make 1 20 s134)) (fun f => cv_newa (f := f) (M := 312) (pc := 566) (a := .int) (r := 1) hn rfl rfl rfl) (rc_ltM h fun s135 h => ?_)
  refine rg_step 1 (G' := fun f => evC f 312 571 [oR 549 0, nn] [] (wF s135 549 98)) (fun _ => rfl) (rc_ltM h fun s136 h => ?_)
  refine rc_gd h fun hn h => ?_
  refine rg_step 2 (G' := fun f => evC f 312 574 [oR 549 0, nn] [vI (cI 20), vR 549 0] s136) (fun _ => rfl) ?_
  refine rg_step 1 (G' := fun f => evC f 312 576 [oR 549 0, nn] [vR 616 0, vR 549 0] (s_make 1 20 s136)) (fun f => cv_newa (f := f) (M := 312) (pc := 574) (a := .int) (r := 1) hn rfl rfl rfl) (rc_ltM h fun s137 h => ?_)
  refine rg_step 1 (G' := fun f => evC f 312 579 [oR 549 0, nn] [] (wF s137 549 99)) (fun _ => rfl) (rc_ltM h fun s138 h => ?_)
  refine rc_gd h fun hn h => ?_
  refine rg_step 2 (G' := fun f => evC f 312 582 [oR 549 0, nn] [vI (cI 20), vR 549 0] s138) (fun _ => rfl) ?_
  refine rg_step 1 (G' := fun f => evC f 312 584 [oR 549 0, nn] [vR 617 0, vR 549 0] (s_make 1 20 s138)) (fun f => cv_newa (f := f) (M := 312) (pc := 582) (a := .int) (r := 1) hn rfl rfl rfl) (rc_ltM h fun s139 h => ?_)
  refine rg_step 1 (G' := fun f => evC f 312 587 [oR 549 0, nn] [] (wF s139 549 100)) (fun _ => rfl) (rc_ltM h fun s140 h => ?_)
  refine rc_gd h fun hn h => ?_
  refine rg_step 2 (G' := fun f => evC f 312 590 [oR 549 0, nn] [vI (cI 80), vR 549 0] s140) (fun _ => rfl) ?_
  refine rg_step 1 (G' := fun f => evC f 312 592 [oR 549 0, nn] [vR 618 0, vR 549 0] (s_make 1 80 s140)) (fun f => cv_newa (f := f) (M := 312) (pc := 590) (a := .int) (r := 1) hn rfl rfl rfl) (rc_ltM h fun s141 h => ?_)
  refine rg_step 1 (G' := fun f => evC f 312 595 [oR 549 0, nn] [] (wF s141 549 102)) (fun _ => rfl) (rc_ltM h fun s142 h => ?_)
  refine rc_gd h fun hn h => ?_
  refine rg_step 2 (G' := fun f => evC f 312 598 [oR 549 0, nn] [vI (cI 80), vR 549 0] s142) (fun _ => rfl) ?_
  refine rg_step 1 (G' := fun f => evC f 312 600 [oR 549 0, nn] [vR 619 0, vR 549 0] (s_make 1 80 s142)) (fun f => cv_newa (f := f) (M := 312) (pc := 598) (a := .int) (r := 1) hn rfl rfl rfl) (rc_ltM h fun s143 h => ?_)
  refine rg_step 1 (G' := fun f => evC f 312 603 [oR 549 0, nn] [] (wF s143 549 103)) (fun _ => rfl) (rc_ltM h fun s144 h => ?_)
  refine rc_gd h fun hn h => ?_
  refine rg_step 2 (G' := fun f => evC f 312 606 [oR 549 0, nn] [vI (cI 80), vR 549 0] s144) (fun _ => rfl) ?_
  refine rg_step 1 (G' := fun f => evC f 312 608 [oR 549 0, nn] [vR 620 0, vR 549 0] (s_make 1 80 s144)) (fun f => cv_newa (f := f) (M := 312) (pc := 606) (a := .int) (r := 1) hn rfl rfl rfl) (rc_ltM h fun s145 h => ?_)
  refine rg_step 1 (G' := fun f => evC f 312 611 [oR 549 0, nn] [] (wF s145 549 104)) (fun _ => rfl) (rc_ltM h fun s146 h => ?_)
  refine rc_gd h fun hn h => ?_
  refine rg_step 2 (G' := fun f => evC f 312 614 [oR 549 0, nn] [vI (cI 80), vR 549 0] s146) (fun _ => rfl) ?_
  refine rg_step 1 (G' := fun f => evC f 312 616 [oR 549 0, nn] [vR 621 0, vR 549 0] (s_make 1 80 s146)) (fun f => cv_newa (f := f) (M := 312) (pc := 614) (a := .int) (r := 1) hn rfl rfl rfl) (rc_ltM h fun s147 h => ?_)
  refine rg_step 1 (G' := fun f => evC f 312 619 [oR 549 0, nn] [] (wF s147 549 105)) (fun _ => rfl) (rc_ltM h fun s148 h => ?_)
  refine rc_gd h fun hn h => ?_
  refine rg_step 2 (G' := fun f => evC f 312 622 [oR 549 0, nn] [vI (cI 80), vR 549 0] s148) (fun _ => rfl) ?_
  refine rg_step 1 (G' := fun f => evC f 312 624 [oR 549 0, nn] [vR 622 0, vR 549 0] (s_make 1 80 s148)) (fun f => cv_newa (f := f) (M := 312) (pc := 622) (a := .int) (r := 1) hn rfl rfl rfl) (rc_ltM h fun s149 h => ?_)
  refine rg_step 1 (G' := fun f => evC f 312 627 [oR 549 0, nn] [] (wF s149 549 106)) (fun _ => rfl) (rc_ltM h fun s150 h => ?_)
  refine rc_gd h fun hn h => ?_
  refine rg_step 2 (G' := fun f => evC f 312 630 [oR 549 0, nn] [vI (cI 8), vR 549 0] s150) (fun _ => rfl) ?_
  refine rg_step 1 (G' := fun f => evC f 312 632 [oR 549 0, nn] [vR 623 0, vR 549 0] (s_make 1 8 s150)) (fun f => cv_newa (f := f) (M := 312) (pc := 630) (a := .int) (r := 1) hn rfl rfl rfl) (rc_ltM h fun s151 h => ?_)
  refine rg_step 1 (G' := fun f => evC f 312 635 [oR 549 0, nn] [] (wF s151 549 108)) (fun _ => rfl) (rc_ltM h fun s152 h => ?_)
  refine rc_gd h fun hn h => ?_
  refine rg_step 2 (G' := fun f => evC f 312 638 [oR 549 0, nn] [vI (cI 8), vR 549 0] s152) (fun _ => rfl) ?_
  refine rg_step 1 (G' := fun f => evC f 312 640 [oR 549 0, nn] [vR 624 0, vR 549 0] (s_make 1 8 s152)) (fun f => cv_newa (f := f) (M := 312) (pc := 638) (a := .int) (r := 1) hn rfl rfl rfl) (rc_ltM h fun s153 h => ?_)
  refine rg_step 1 (G' := fun f => evC f 312 643 [oR 549 0, nn] [] (wF s153 549 109)) (fun _ => rfl) (rc_ltM h fun s154 h => ?_)
  refine rc_gd h fun hn h => ?_
  refine rg_step 2 (G' := fun f => evC f 312 646 [oR 549 0, nn] [vI (cI 8), vR 549 0] s154) (fun _ => rfl) ?_
  refine rg_step 1 (G' := fun f => evC f 312 648 [oR 549 0, nn] [vR 625 0, vR 549 0] (s_make 1 8 s154)) (fun f => cv_newa (f := f) (M := 312) (pc := 646) (a := .int) (r := 1) hn rfl rfl rfl) (rc_ltM h fun s155 h => ?_)
  refine rg_step 1 (G' := fun f => evC f 312 651 [oR 549 0, nn] [] (wF s155 549 110)) (fun _ => rfl) (rc_ltM h fun s156 h => ?_)
  refine rc_gd h fun hn h => ?_
  refine rg_step 2 (G' := fun f => evC f 312 654 [oR 549 0, nn] [vI (cI 30), vR 549 0] s156) (fun _ => rfl) ?_
  refine rg_step 1 (G' := fun f => evC f 312 656 [oR 549 0, nn] [vR 626 0, vR 549 0] (s_make 1 30 s156)) (fun f => cv_newa (f := f) (M := 312) (pc := 654) (a := .int) (r := 1) hn rfl rfl rfl) (rc_ltM h fun s157 h => ?_)
  refine rg_step 1 (G' := fun f => evC f 312 659 [oR 549 0, nn] [] (wF s157 549 112)) (fun _ => rfl) (rc_ltM h fun s158 h => ?_)
  refine rc_gd h fun hn h => ?_
  refine rg_step 2 (G' := fun f => evC f 312 662 [oR 549 0, nn] [vI (cI 30), vR 549 0] s158) (fun _ => rfl) ?_
  refine rg_step 1 (G' := fun f => evC f 312 664 [oR 549 0, nn] [vR 627 0, vR 549 0] (s_make 1 30 s158)) (fun f => cv_newa (f := f) (M := 312) (pc := 662) (a := .int) (r := 1) hn rfl rfl rfl) (rc_ltM h fun s159 h => ?_)
  refine rg_step 1 (G' := fun f => evC f 312 667 [oR 549 0, nn] [] (wF s159 549 113)) (fun _ => rfl) (rc_ltM h fun s160 h => ?_)
  refine rc_gd h fun hn h => ?_
  refine rg_step 2 (G' := fun f => evC f 312 671 [oR 549 0, nn] [vI (cI 2000), vR 549 0] s160) (fun _ => rfl) ?_
  refine rg_step 1 (G' := fun f => evC f 312 673 [oR 549 0, nn] [vR 628 0, vR 549 0] (s_make 1 2000 s160)) (fun f => cv_newa (f := f) (M := 312) (pc := 671) (a := .int) (r := 1) hn rfl rfl rfl) (rc_ltM h fun s161 h => ?_)
  refine rg_step 1 (G' := fun f => evC f 312 676 [oR 549 0, nn] [] (wF s161 549 115)) (fun _ => rfl) (rc_ltM h fun s162 h => ?_)
  refine rc_gd h fun hn h => ?_
  refine rg_step 2 (G' := fun f => evC f 312 680 [oR 549 0, nn] [vI (cI 2000), vR 549 0] s162) (fun _ => rfl) ?_
  refine rg_step 1 (G' := fun f => evC f 312 682 [oR 549 0, nn] [vR 629 0, vR 549 0] (s_make 1 2000 s162)) (fun f => cv_newa (f := f) (M := 312) (pc := 680) (a := .int) (r := 1) hn rfl rfl rfl) (rc_ltM h fun s163 h => ?_)
  refine rg_step 1 (G' := fun f => evC f 312 685 [oR 549 0, nn] [] (wF s163 549 116)) (fun _ => rfl) (rc_ltM h fun s164 h => ?_)
  refine rc_gd h fun hn h => ?_
  refine rg_step 2 (G' := fun f => evC f 312 689 [oR 549 0, nn] [vI (cI 2000), vR 549 0] s164) (fun _ => rfl) ?_
  refine rg_step 1 (G' := fun f => evC f 312 691 [oR 549 0, nn] [vR 630 0, vR 549 0] (s_make 1 2000 s164)) (fun f => cv_newa (f := f) (M := 312) (pc := 689) (a := .int) (r := 1) hn rfl rfl rfl) (rc_ltM h fun s165 h => ?_)
  refine rg_step 1 (G' := fun f => evC f 312 694 [oR 549 0, nn] [] (wF s165 549 117)) (fun _ => rfl) (rc_ltM h fun s166 h => ?_)
  refine rc_gd h fun hn h => ?_
  refine rg_step 2 (G' := fun f => evC f 312 698 [oR 549 0, nn] [vI (cI 2000), vR 549 0] s166) (fun _ => rfl) ?_
  refine rg_step 1 (G' := fun f => evC f 312 700 [oR 549 0, nn] [vR 631 0, vR 549 0] (s_make 1 2000 s166)) (fun f => cv_newa (f := f) (M := 312) (pc := 698) (a := .int) (r := 1) hn rfl rfl rfl) (rc_ltM h fun s167 h => ?_)
  refine rg_step 1 (G' := fun f => evC f 312 703 [oR 549 0, nn] [] (wF s167 549 118)) (fun _ => rfl) (rc_ltM h fun s168 h => ?_)
  refine rc_gd h fun hn h => ?_
  refine rg_step 2 (G' := fun f => evC f 312 706 [oR 549 0, nn] [vI (cI 60), vR 549 0] s168) (fun _ => rfl) ?_
  refine rg_step 1 (G' := fun f => evC f 312 708 [oR 549 0, nn] [vR 632 0, vR 549 0] (s_make 1 60 s168)) (fun f => cv_newa (f := f) (M := 312) (pc := 706) (a := .int) (r := 1) hn rfl rfl rfl) (rc_ltM h fun s169 h => ?_)
  refine rg_step 1 (G' := fun f => evC f 312 711 [oR 549 0, nn] [] (wF s169 549 120)) (fun _ => rfl) (rc_ltM h fun s170 h => ?_)
  refine rc_gd h fun hn h => ?_
  refine rg_step 2 (G' := fun f => evC f 312 714 [oR 549 0, nn] [vI (cI 60), vR 549 0] s170) (fun _ => rfl) ?_
  refine rg_step 1 (G' := fun f => evC f 312 716 [oR 549 0, nn] [vR 633 0, vR 549 0] (s_make 1 60 s170)) (fun f => cv_newa (f := f) (M := 312) (pc := 714) (a := .int) (r := 1) hn rfl rfl rfl) (rc_ltM h fun s171 h => ?_)
  refine rg_step 1 (G' := fun f => evC f 312 719 [oR 549 0, nn] [] (wF s171 549 121)) (fun _ => rfl) (rc_ltM h fun s172 h => ?_)
  refine rc_gd h fun hn h => ?_
  refine rg_step 2 (G' := fun f => evC f 312 722 [oR 549 0, nn] [vI (cI 60), vR 549 0] s172) (fun _ => rfl) ?_
  refine rg_step 1 (G' := fun f => evC f 312 724 [oR 549 0, nn] [vR 634 0, vR 549 0] (s_make 1 60 s172)) (fun f => cv_newa (f := f) (M := 312) (pc := 722) (a := .int) (r := 1) hn rfl rfl rfl) (rc_ltM h fun s173 h => ?_)
  refine rg_step 1 (G' := fun f => evC f 312 727 [oR 549 0, nn] [] (wF s173 549 122)) (fun _ => rfl) (rc_ltM h fun s174 h => ?_)
  refine rc_gd h fun hn h => ?_
  refine rg_step 2 (G' := fun f => evC f 312 730 [oR 549 0, nn] [vI (cI 60), vR 549 0] s174) (fun _ => rfl) ?_
  refine rg_step 1 (G' := fun f => evC f 312 732 [oR 549 0, nn] [vR 635 0, vR 549 0] (s_make 1 60 s174)) (fun f => cv_newa (f := f) (M := 312) (pc := 730) (a := .int) (r := 1) hn rfl rfl rfl) (rc_ltM h fun s175 h => ?_)
  refine rg_step 1 (G' := fun f => evC f 312 735 [oR 549 0, nn] [] (wF s175 549 123)) (fun _ => rfl) (rc_ltM h fun s176 h => ?_)
  refine rc_gd h fun hn h => ?_
  refine rg_step 2 (G' := fun f => evC f 312 738 [oR 549 0, nn] [vI (cI 60), vR 549 0] s176) (fun _ => rfl) ?_
  refine rg_step 1 (G' := fun f => evC f 312 740 [oR 549 0, nn] [vR 636 0, vR 549 0] (s_make 1 60 s176)) (fun f => cv_newa (f := f) (M := 312) (pc := 738) (a := .int) (r := 1) hn rfl rfl rfl) (rc_ltM h fun s177 h => ?_)
  refine rg_step 1 (G' := fun f => evC f 312 743 [oR 549 0, nn] [] (wF s177 549 124)) (fun _ => rfl) (rc_ltM h fun s178 h => ?_)
  refine rc_gd h fun hn h => ?_
  refine rg_step 2 (G' := fun f => evC f 312 746 [oR 549 0, nn] [vI (cI 40), vR 549 0] s178) (fun _ => rfl) ?_
  refine rg_step 1 (G' := fun f => evC f 312 748 [oR 549 0, nn] [vR 637 0, vR 549 0] (s_make 1 40 s178)) (fun f => cv_newa (f := f) (M := 312) (pc := 746) (a := .int) (r := 1) hn rfl rfl rfl) (rc_ltM h fun s179 h => ?_)
  refine rg_step 1 (G' := fun f => evC f 312 751 [oR 549 0, nn] [] (wF s179 549 126)) (fun _ => rfl) (rc_ltM h fun s180 h => ?_)
  refine rc_gd h fun hn h => ?_
  refine rg_step 2 (G' := fun f => evC f 312 754 [oR 549 0, nn] [vI (cI 40), vR 549 0] s180) (fun _ => rfl) ?_
  refine rg_step 1 (G' := fun f => evC f 312 756 [oR 549 0, nn] [vR 638 0, vR 549 0] (s_make 1 40 s180)) (fun f => cv_newa (f := f) (M := 312) (pc := 754) (a := .int) (r := 1) hn rfl rfl rfl) (rc_ltM h fun s181 h => ?_)
  refine rg_step 1 (G' := fun f => evC f 312 759 [oR 549 0, nn] [] (wF s181 549 127)) (fun _ => rfl) (rc_ltM h fun s182 h => ?_)
  refine rc_gd h fun hn h => ?_
  refine rg_step 2 (G' := fun f => evC f 312 762 [oR 549 0, nn] [vI (cI 40), vR 549 0] s182) (fun _ => rfl) ?_
  refine rg_step 1 (G' := fun f => evC f 312 764 [oR 549 0, nn] [vR 639 0, vR 549 0] (s_make 1 40 s182)) (fun f => cv_newa (f := f) (M := 312) (pc := 762) (a := .int) (r := 1) hn rfl rfl rfl) (rc_ltM h fun s183 h => ?_)
  refine rg_step 1 (G' := fun f => evC f 312 767 [oR 549 0, nn] [] (wF s183 549 128)) (fun _ => rfl) (rc_ltM h fun s184 h => ?_)
  refine rc_gd h fun hn h => ?_
  refine rg_step 2 (G' := fun f => evC f 312 771 [oR 549 0, nn] [vI (cI 5000), vR 549 0] s184) (fun _ => rfl) ?_
  refine rg_step 1 (G' := fun f => evC f 312 773 [oR 549 0, nn] [vR 640 0, vR 549 0] (s_make 1 5000 s184)) (fun f => cv_newa (f := f) (M := 312) (pc := 771) (a := .int) (r := 1) hn rfl rfl rfl) (rc_ltM h fun s185 h => ?_)
  refine rg_step 1 (G' := fun f => evC f 312 776 [oR 549 0, nn] [] (wF s185 549 130)) (fun _ => rfl) (rc_ltM h fun s186 h => ?_)
  refine rc_gd h fun hn h => ?_
  refine rg_step 2 (G' := fun f => evC f 312 780 [oR 549 0, nn] [vI (cI 5000), vR 549 0] s186) (fun _ => rfl) ?_
  refine rg_step 1 (G' := fun f => evC f 312 782 [oR 549 0, nn] [vR 641 0, vR 549 0] (s_make 1 5000 s186)) (fun f => cv_newa (f := f) (M := 312) (pc := 780) (a := .int) (r := 1) hn rfl rfl rfl) (rc_ltM h fun s187 h => ?_)
  refine rg_step 1 (G' := fun f => evC f 312 785 [oR 549 0, nn] [] (wF s187 549 131)) (fun _ => rfl) (rc_ltM h fun s188 h => ?_)
  refine rc_gd h fun hn h => ?_
  refine rg_step 2 (G' := fun f => evC f 312 789 [oR 549 0, nn] [vI (cI 5000), vR 549 0] s188) (fun _ => rfl) ?_
  refine rg_step 1 (G' := fun f => evC f 312 791 [oR 549 0, nn] [vR 642 0, vR 549 0] (s_make 1 5000 s188)) (fun f => cv_newa (f := f) (M := 312) (pc := 789) (a := .int) (r := 1) hn rfl rfl rfl) (rc_ltM h fun s189 h => ?_)
  refine rg_step 1 (G' := fun f => evC f 312 794 [oR 549 0, nn] [] (wF s189 549 132)) (fun _ => rfl) (rc_ltM h fun s190 h => ?_)
  refine rc_gd h fun hn h => ?_
  refine rg_step 2 (G' := fun f => evC f 312 798 [oR 549 0, nn] [vI (cI 5000), vR 549 0] s190) (fun _ => rfl) ?_
  refine rg_step 1 (G' := fun f => evC f 312 800 [oR 549 0, nn] [vR 643 0, vR 549 0] (s_make 1 5000 s190)) (fun f => cv_newa (f := f) (M := 312) (pc := 798) (a := .int) (r := 1) hn rfl rfl rfl) (rc_ltM h fun s191 h => ?_)
  refine rg_step 1 (G' := fun f => evC f 312 803 [oR 549 0, nn] [] (wF s191 549 133)) (fun _ => rfl) (rc_ltM h fun s192 h => ?_)
  refine rc_gd h fun hn h => ?_
  refine rg_step 2 (G' := fun f => evC f 312 807 [oR 549 0, nn] [vI (cI 3000), vR 549 0] s192) (fun _ => rfl) ?_
  refine rg_step 1 (G' := fun f => evC f 312 809 [oR 549 0, nn] [vR 644 0, vR 549 0] (s_make 1 3000 s192)) (fun f => cv_newa (f := f) (M := 312) (pc := 807) (a := .int) (r := 1) hn rfl rfl rfl) (rc_ltM h fun s193 h => ?_)
  refine rg_step 1 (G' := fun f => evC f 312 812 [oR 549 0, nn] [] (wF s193 549 135)) (fun _ => rfl) (rc_ltM h fun s194 h => ?_)
  refine rc_gd h fun hn h => ?_
  refine rg_step 2 (G' := fun f => evC f 312 816 [oR 549 0, nn] [vI (cI 3000), vR 549 0] s194) (fun _ => rfl) ?_
  refine rg_step 1 (G' := fun f => evC f 312 818 [oR 549 0, nn] [vR 645 0, vR 549 0] (s_make 1 3000 s194)) (fun f => cv_newa (f := f) (M := 312) (pc := 816) (a := .int) (r := 1) hn rfl rfl rfl) (rc_ltM h fun s195 h => ?_)
  refine rg_step 1 (G' := fun f => evC f 312 821 [oR 549 0, nn] [] (wF s195 549 136)) (fun _ => rfl) (rc_ltM h fun s196 h => ?_)
  refine rc_gd h fun hn h => ?_
  refine rg_step 2 (G' := fun f => evC f 312 825 [oR 549 0, nn] [vI (cI 3000), vR 549 0] s196) (fun _ => rfl) ?_
  refine rg_step 1 (G' := fun f => evC f 312 827 [oR 549 0, nn] [vR 646 0, vR 549 0] (s_make 1 3000 s196)) (fun f => cv_newa (f := f) (M := 312) (pc := 825) (a := .int) (r := 1) hn rfl rfl rfl) (rc_ltM h fun s197 h => ?_)
  refine rg_step 1 (G' := fun f => evC f 312 830 [oR 549 0, nn] [] (wF s197 549 137)) (fun _ => rfl) (rc_ltM h fun s198 h => ?_)
  refine rc_gd h fun hn h => ?_
  refine rg_step 2 (G' := fun f => evC f 312 833 [oR 549 0, nn] [vI (cI 8), vR 549 0] s198) (fun _ => rfl) ?_
  refine rg_step 1 (G' := fun f => evC f 312 835 [oR 549 0, nn] [vR 647 0, vR 549 0] (s_make 1 8 s198)) (fun f => cv_newa (f := f) (M := 312) (pc := 833) (a := .int) (r := 1) hn rfl rfl rfl) (rc_ltM h fun s199 h => ?_)
  refine rg_step 1 (G' := fun f => evC f 312 838 [oR 549 0, nn] [] (wF s199 549 138)) (fun _ => rfl) (rc_ltM h fun s200 h => ?_)
  refine rc_gd h fun hn h => ?_
  refine rg_step 2 (G' := fun f => evC f 312 841 [oR 549 0, nn] [vI (cI 120), vR 549 0] s200) (fun _ => rfl) ?_
  refine rg_step 1 (G' := fun f => evC f 312 843 [oR 549 0, nn] [vR 648 0, vR 549 0] (s_make 1 120 s200)) (fun f => cv_newa (f := f) (M := 312) (pc := 841) (a := .boolean) (r := 3) hn rfl rfl rfl) (rc_ltM h fun s201 h => ?_)
  refine rg_step 1 (G' := fun f => evC f 312 846 [oR 549 0, nn] [] (wF s201 549 142)) (fun _ => rfl) (rc_ltM h fun s202 h => ?_)
  refine rc_gd h fun hn h => ?_
  refine rg_step 2 (G' := fun f => evC f 312 850 [oR 549 0, nn] [vI (cI 4096), vR 549 0] s202) (fun _ => rfl) ?_
  refine rg_step 1 (G' := fun f => evC f 312 852 [oR 549 0, nn] [vR 649 0, vR 549 0] (s_make 1 4096 s202)) (fun f => cv_newa (f := f) (M := 312) (pc := 850) (a := .boolean) (r := 3) hn rfl rfl rfl) (rc_ltM h fun s203 h => ?_)
  refine rg_step 1 (G' := fun f => evC f 312 855 [oR 549 0, nn] [] (wF s203 549 143)) (fun _ => rfl) (rc_ltM h fun s204 h => ?_)
  refine rc_gd h fun hn h => ?_
  refine rg_step 2 (G' := fun f => evC f 312 859 [oR 549 0, nn] [vI (cI 4096), vR 549 0] s204) (fun _ => rfl) ?_
  refine rg_step 1 (G' := fun f => evC f 312 861 [oR 549 0, nn] [vR 650 0, vR 549 0] (s_make 1 4096 s204)) (fun f => cv_newa (f := f) (M := 312) (pc := 859) (a := .boolean) (r := 3) hn rfl rfl rfl) (rc_ltM h fun s205 h => ?_)
  refine rg_step 1 (G' := fun f => evC f 312 864 [oR 549 0, nn] [] (wF s205 549 144)) (fun _ => rfl) (rc_ltM h fun s206 h => ?_)
  refine rc_gd h fun hn h => ?_
  refine rg_step 2 (G' := fun f => evC f 312 868 [oR 549 0, nn] [vI (cI 4096), vR 549 0] s206) (fun _ => rfl) ?_
  refine rg_step 1 (G' := fun f => evC f 312 870 [oR 549 0, nn] [vR 651 0, vR 549 0] (s_make 1 4096 s206)) (fun f => cv_newa (f := f) (M := 312) (pc := 868) (a := .int) (r := 1) hn rfl rfl rfl) (rc_ltM h fun s207 h => ?_)
  refine rg_step 1 (G' := fun f => evC f 312 873 [oR 549 0, nn] [] (wF s207 549 145)) (fun _ => rfl) (rc_ltM h fun s208 h => ?_)
  refine rc_gd h fun hn h => ?_
  refine rg_step 2 (G' := fun f => evC f 312 877 [oR 549 0, nn] [vI (cI 200), vR 549 0] s208) (fun _ => rfl) ?_
  refine rg_step 1 (G' := fun f => evC f 312 879 [oR 549 0, nn] [vR 652 0, vR 549 0] (s_make 1 200 s208)) (fun f => cv_newa (f := f) (M := 312) (pc := 877) (a := .int) (r := 1) hn rfl rfl rfl) (rc_ltM h fun s209 h => ?_)
  refine rg_step 1 (G' := fun f => evC f 312 882 [oR 549 0, nn] [] (wF s209 549 147)) (fun _ => rfl) (rc_ltM h fun s210 h => ?_)
  refine rc_gd h fun hn h => ?_
  refine rg_step 2 (G' := fun f => evC f 312 886 [oR 549 0, nn] [vI (cI 200), vR 549 0] s210) (fun _ => rfl) ?_
  refine rg_step 1 (G' := fun f => evC f 312 888 [oR 549 0, nn] [vR 653 0, vR 549 0] (s_make 1 200 s210)) (fun f => cv_newa (f := f) (M := 312) (pc := 886) (a := .int) (r := 1) hn rfl rfl rfl) (rc_ltM h fun s211 h => ?_)
  refine rg_step 1 (G' := fun f => evC f 312 891 [oR 549 0, nn] [] (wF s211 549 148)) (fun _ => rfl) (rc_ltM h fun s212 h => ?_)
  refine rc_gd h fun hn h => ?_
  refine rg_step 2 (G' := fun f => evC f 312 895 [oR 549 0, nn] [vI (cI 200), vR 549 0] s212) (fun _ => rfl) ?_
  refine rg_step 1 (G' := fun f => evC f 312 897 [oR 549 0, nn] [vR 654 0, vR 549 0] (s_make 1 200 s212)) (fun f => cv_newa (f := f) (M := 312) (pc := 895) (a := .int) (r := 1) hn rfl rfl rfl) (rc_ltM h fun s213 h => ?_)
  refine rg_step 1 (G' := fun f => evC f 312 900 [oR 549 0, nn] [] (wF s213 549 149)) (fun _ => rfl) (rc_ltM h fun s214 h => ?_)
  refine rc_gd h fun hn h => ?_
  refine rg_step 2 (G' := fun f => evC f 312 904 [oR 549 0, nn] [vI (cI 200), vR 549 0] s214) (fun _ => rfl) ?_
  refine rg_step 1 (G' := fun f => evC f 312 906 [oR 549 0, nn] [vR 655 0, vR 549 0] (s_make 1 200 s214)) (fun f => cv_newa (f := f) (M := 312) (pc := 904) (a := .int) (r := 1) hn rfl rfl rfl) (rc_ltM h fun s215 h => ?_)
  refine rg_step 1 (G' := fun f => evC f 312 909 [oR 549 0, nn] [] (wF s215 549 150)) (fun _ => rfl) (rc_ltM h fun s216 h => ?_)
  refine rc_gd h fun hn h => ?_
  refine rg_step 2 (G' := fun f => evC f 312 913 [oR 549 0, nn] [vI (cI 200), vR 549 0] s216) (fun _ => rfl) ?_
  refine rg_step 1 (G' := fun f => evC f 312 915 [oR 549 0, nn] [vR 656 0, vR 549 0] (s_make 1 200 s216)) (fun f => cv_newa (f := f) (M := 312) (pc := 913) (a := .int) (r := 1) hn rfl rfl rfl) (rc_ltM h fun s217 h => ?_)
  refine rg_step 1 (G' := fun f => evC f 312 918 [oR 549 0, nn] [] (wF s217 549 151)) (fun _ => rfl) (rc_ltM h fun s218 h => ?_)
  refine rc_gd h fun hn h => ?_
  refine rg_step 2 (G' := fun f => evC f 312 921 [oR 549 0, nn] [vI (cI 36), vR 549 0] s218) (fun _ => rfl) ?_
  refine rg_step 1 (G' := fun f => evC f 312 923 [oR 549 0, nn] [vR 657 0, vR 549 0] (s_make 1 36 s218)) (fun f => cv_newa (f := f) (M := 312) (pc := 921) (a := .int) (r := 1) hn rfl rfl rfl) (rc_ltM h fun s219 h => ?_)
  refine rg_step 4 (G' := fun f => evC f 312 929 [oR 549 0, nn] [vR 657 0, vR 549 0] (wI s219 657 (ix (cI 0)) (cI 31599))) (fun _ => rfl) (rc_ltM h fun s220 h => ?_)
  refine rg_step 4 (G' := fun f => evC f 312 935 [oR 549 0, nn] [vR 657 0, vR 549 0] (wI s220 657 (ix (cI 1)) (cI 11415))) (fun _ => rfl) (rc_ltM h fun s221 h => ?_)
  refine rg_step 4 (G' := fun f => evC f 312 941 [oR 549 0, nn] [vR 657 0, vR 549 0] (wI s221 657 (ix (cI 2)) (cI 29671))) (fun _ => rfl) (rc_ltM h fun s222 h => ?_)
  refine rg_step 4 (G' := fun f => evC f 312 947 [oR 549 0, nn] [vR 657 0, vR 549 0] (wI s222 657 (ix (cI 3)) (cI 29647))) (fun _ => rfl) (rc_ltM h fun s223 h => ?_)
  refine rg_step 4 (G' := fun f => evC f 312 953 [oR 549 0, nn] [vR 657 0, vR 549 0] (wI s223 657 (ix (cI 4)) (cI 23497))) (fun _ => rfl) (rc_ltM h fun s224 h => ?_)
  refine rg_step 4 (G' := fun f => evC f 312 959 [oR 549 0, nn] [vR 657 0, vR 549 0] (wI s224 657 (ix (cI 5)) (cI 31183))) (fun _ => rfl) (rc_ltM h fun s225 h => ?_)
  refine rg_step 4 (G' := fun f => evC f 312 966 [oR 549 0, nn] [vR 657 0, vR 549 0] (wI s225 657 (ix (cI 6)) (cI 31215))) (fun _ => rfl) (rc_ltM h fun s226 h => ?_)
  refine rg_step 4 (G' := fun f => evC f 312 973 [oR 549 0, nn] [vR 657 0, vR 549 0] (wI s226 657 (ix (cI 7)) (cI 29266))) (fun _ => rfl) (rc_ltM h fun s227 h => ?_)
  refine rg_step 4 (G' := fun f => evC f 312 980 [oR 549 0, nn] [vR 657 0, vR 549 0] (wI s227 657 (ix (cI 8)) (cI 31727))) (fun _ => rfl) (rc_ltM h fun s228 h => ?_)
  refine rg_step 4 (G' := fun f => evC f 312 987 [oR 549 0, nn] [vR 657 0, vR 549 0] (wI s228 657 (ix (cI 9)) (cI 31695))) (fun _ => rfl) (rc_ltM h fun s229 h => ?_)
  refine rg_step 4 (G' := fun f => evC f 312 994 [oR 549 0, nn] [vR 657 0, vR 549 0] (wI s229 657 (ix (cI 10)) (cI 11245))) (fun _ => rfl) (rc_ltM h fun s230 h => ?_)
  refine rg_step 4 (G' := fun f => evC f 312 1001 [oR 549 0, nn] [vR 657 0, vR 549 0] (wI s230 657 (ix (cI 11)) (cI 27566))) (fun _ => rfl) (rc_ltM h fun s231 h => ?_)
  refine rg_step 4 (G' := fun f => evC f 312 1008 [oR 549 0, nn] [vR 657 0, vR 549 0] (wI s231 657 (ix (cI 12)) (cI 14627))) (fun _ => rfl) (rc_ltM h fun s232 h => ?_)
  refine rg_step 4 (G' := fun f => evC f 312 1015 [oR 549 0, nn] [vR 657 0, vR 549 0] (wI s232 657 (ix (cI 13)) (cI 27502))) (fun _ => rfl) (rc_ltM h fun s233 h => ?_)
  refine rg_step 4 (G' := fun f => evC f 312 1022 [oR 549 0, nn] [vR 657 0, vR 549 0] (wI s233 657 (ix (cI 14)) (cI 31143))) (fun _ => rfl) (rc_ltM h fun s234 h => ?_)
  refine rg_step 4 (G' := fun f => evC f 312 1029 [oR 549 0, nn] [vR 657 0, vR 549 0] (wI s234 657 (ix (cI 15)) (cI 31140))) (fun _ => rfl) (rc_ltM h fun s235 h => ?_)
  refine rg_step 4 (G' := fun f => evC f 312 1036 [oR 549 0, nn] [vR 657 0, vR 549 0] (wI s235 657 (ix (cI 16)) (cI 14699))) (fun _ => rfl) (rc_ltM h fun s236 h => ?_)
  refine rg_step 4 (G' := fun f => evC f 312 1043 [oR 549 0, nn] [vR 657 0, vR 549 0] (wI s236 657 (ix (cI 17)) (cI 23533))) (fun _ => rfl) (rc_ltM h fun s237 h => ?_)
  refine rg_step 4 (G' := fun f => evC f 312 1050 [oR 549 0, nn] [vR 657 0, vR 549 0] (wI s237 657 (ix (cI 18)) (cI 29847))) (fun _ => rfl) (rc_ltM h fun s238 h => ?_)
  refine rg_step 4 (G' := fun f => evC f 312 1057 [oR 549 0, nn] [vR 657 0, vR 549 0] (wI s238 657 (ix (cI 19)) (cI 4714))) (fun _ => rfl) (rc_ltM h fun s239 h => ?_)
  refine rg_step 4 (G' := fun f => evC f 312 1064 [oR 549 0, nn] [vR 657 0, vR 549 0] (wI s239 657 (ix (cI 20)) (cI 23469))) (fun _ => rfl) (rc_ltM h fun s240 h => ?_)
  refine rg_step 4 (G' := fun f => evC f 312 1071 [oR 549 0, nn] [vR 657 0, vR 549 0] (wI s240 657 (ix (cI 21)) (cI 18727))) (fun _ => rfl) (rc_ltM h fun s241 h => ?_)
  refine rg_step 4 (G' := fun f => evC f 312 1078 [oR 549 0, nn] [vR 657 0, vR 549 0] (wI s241 657 (ix (cI 22)) (cI 24557))) (fun _ => rfl) (rc_ltM h fun s242 h => ?_)
  refine rg_step 4 (G' := fun f => evC f 312 1085 [oR 549 0, nn] [vR 657 0, vR 549 0] (wI s242 657 (ix (cI 23)) (cI 31597))) (fun _ => rfl) (rc_ltM h fun s243 h => ?_)
  refine rg_step 4 (G' := fun f => evC f 312 1092 [oR 549 0, nn] [vR 657 0, vR 549 0] (wI s243 657 (ix (cI 24)) (cI 11114))) (fun _ => rfl) (rc_ltM h fun s244 h => ?_)
  refine rg_step 4 (G' := fun f => evC f 312 1099 [oR 549 0, nn] [vR 657 0, vR 549 0] (wI s244 657 (ix (cI 25)) (cI 27556))) (fun _ => rfl) (rc_ltM h fun s245 h => ?_)
  refine rg_step 4 (G' := fun f => evC f 312 1106 [oR 549 0, nn] [vR 657 0, vR 549 0] (wI s245 657 (ix (cI 26)) (cI 11123))) (fun _ => rfl) (rc_ltM h fun s246 h => ?_)
  refine rg_step 4 (G' := fun f => evC f 312 1113 [oR 549 0, nn] [vR 657 0, vR 549 0] (wI s246 657 (ix (cI 27)) (cI 27565))) (fun _ => rfl) (rc_ltM h fun s247 h => ?_)
  refine rg_step 4 (G' := fun f => evC f 312 1120 [oR 549 0, nn] [vR 657 0, vR 549 0] (wI s247 657 (ix (cI 28)) (cI 14478))) (fun _ => rfl) (rc_ltM h fun s248 h => ?_)
  refine rg_step 4 (G' := fun f => evC f 312 1127 [oR 549 0, nn] [vR 657 0, vR 549 0] (wI s248 657 (ix (cI 29)) (cI 29842))) (fun _ => rfl) (rc_ltM h fun s249 h => ?_)
  refine rg_step 4 (G' := fun f => evC f 312 1134 [oR 549 0, nn] [vR 657 0, vR 549 0] (wI s249 657 (ix (cI 30)) (cI 23407))) (fun _ => rfl) (rc_ltM h fun s250 h => ?_)
  refine rg_step 4 (G' := fun f => evC f 312 1141 [oR 549 0, nn] [vR 657 0, vR 549 0] (wI s250 657 (ix (cI 31)) (cI 23402))) (fun _ => rfl) (rc_ltM h fun s251 h => ?_)
  refine rg_step 4 (G' := fun f => evC f 312 1148 [oR 549 0, nn] [vR 657 0, vR 549 0] (wI s251 657 (ix (cI 32)) (cI 23549))) (fun _ => rfl) (rc_ltM h fun s252 h => ?_)
  refine rg_step 4 (G' := fun f => evC f 312 1155 [oR 549 0, nn] [vR 657 0, vR 549 0] (wI s252 657 (ix (cI 33)) (cI 23213))) (fun _ => rfl) (rc_ltM h fun s253 h => ?_)
  refine rg_step 4 (G' := fun f => evC f 312 1162 [oR 549 0, nn] [vR 657 0, vR 549 0] (wI s253 657 (ix (cI 34)) (cI 23186))) (fun _ => rfl) (rc_ltM h fun s254 h => ?_)
  refine rg_step 4 (G' := fun f => evC f 312 1169 [oR 549 0, nn] [vR 657 0, vR 549 0] (wI s254 657 (ix (cI 35)) (cI 29351))) (fun _ => rfl) (rc_ltM h fun s255 h => ?_)
  refine rg_step 1 (G' := fun f => evC f 312 1172 [oR 549 0, nn] [] (wF s255 549 154)) (fun _ => rfl) (rc_ltM h fun s256 h => ?_)
  refine rc_gd h fun hn h => ?_
  refine rg_step 2 (G' := fun f => evC f 312 1175 [oR 549 0, nn] [vI (cI 10), vR 549 0] s256) (fun _ => rfl) ?_
  refine rg_step 1 (G' := fun f => evC f 312 1177 [oR 549 0, nn] [vR 658 0, vR 549 0] (s_make 1 10 s256)) (fun f => cv_newa (f := f) (M := 312) (pc := 1175) (a := .int) (r := 1) hn rfl rfl rfl) (rc_ltM h fun s257 h => ?_)
  refine rg_step 1 (G' := fun f => evC f 312 1180 [oR 549 0, nn] [] (wF s257 549 155)) (fun _ => rfl) (rc_ltM h fun s258 h => ?_)
  refine rc_gd h fun hn h => ?_
  refine rg_step 2 (G' := fun f => evC f 312 1183 [oR 549 0, nn] [vI (cI 11), vR 549 0] s258) (fun _ => rfl) ?_
  refine rg_step 1 (G' := fun f => evC f 312 1185 [oR 549 0, nn] [vR 659 0, vR 549 0] (s_make 1 11 s258)) (fun f => cv_newa (f := f) (M := 312) (pc := 1183) (a := .int) (r := 1) hn rfl rfl rfl) (rc_ltM h fun s259 h => ?_)
  refine rg_step 1 (G' := fun f => evC f 312 1188 [oR 549 0, nn] [] (wF s259 549 156)) (fun _ => rfl) (rc_ltM h fun s260 h => ?_)
  refine rc_gd h fun hn h => ?_
  refine rg_step 2 (G' := fun f => evC f 312 1191 [oR 549 0, nn] [vI (cI 15), vR 549 0] s260) (fun _ => rfl) ?_
  refine rg_step 1 (G' := fun f => evC f 312 1193 [oR 549 0, nn] [vR 660 0, vR 549 0] (s_make 1 15 s260)) (fun f => cv_newa (f := f) (M := 312) (pc := 1191) (a := .int) (r := 1) hn rfl rfl rfl) (rc_ltM h fun s261 h => ?_)
  refine rg_step 1 (G' := fun f => evC f 312 1196 [oR 549 0, nn] [] (wF s261 549 157)) (fun _ => rfl) (rc_ltM h fun s262 h => ?_)
  refine rc_gd h fun hn h => ?_
  refine rg_step 2 (G' := fun f => evC f 312 1198 [oR 549 0, nn] [vI (cI 4), vR 549 0] s262) (fun _ => rfl) ?_
  refine rg_step 1 (G' := fun f => evC f 312 1200 [oR 549 0, nn] [vR 661 0, vR 549 0] (s_make 1 4 s262)) (fun f => cv_newa (f := f) (M := 312) (pc := 1198) (a := .int) (r := 1) hn rfl rfl rfl) (rc_ltM h fun s263 h => ?_)
  refine rg_step 4 (G' := fun f => evC f 312 1204 [oR 549 0, nn] [vR 661 0, vR 549 0] (wI s263 661 (ix (cI 0)) (cI 2))) (fun _ => rfl) (rc_ltM h fun s264 h => ?_)
  refine rg_step 4 (G' := fun f => evC f 312 1208 [oR 549 0, nn] [vR 661 0, vR 549 0] (wI s264 661 (ix (cI 1)) (cI 4))) (fun _ => rfl) (rc_ltM h fun s265 h => ?_)
  refine rg_step 4 (G' := fun f => evC f 312 1213 [oR 549 0, nn] [vR 661 0, vR 549 0] (wI s265 661 (ix (cI 2)) (cI 8))) (fun _ => rfl) (rc_ltM h fun s266 h => ?_)
  refine rg_step 4 (G' := fun f => evC f 312 1217 [oR 549 0, nn] [vR 661 0, vR 549 0] (wI s266 661 (ix (cI 3)) (cI 3))) (fun _ => rfl) (rc_ltM h fun s267 h => ?_)
  refine rg_step 1 (G' := fun f => evC f 312 1220 [oR 549 0, nn] [] (wF s267 549 158)) (fun _ => rfl) (rc_ltM h fun s268 h => ?_)
  refine rc_gd h fun hn h => ?_
  refine rg_step 2 (G' := fun f => evC f 312 1222 [oR 549 0, nn] [vI (cI 4), vR 549 0] s268) (fun _ => rfl) ?_
  refine rg_step 1 (G' := fun f => evC f 312 1224 [oR 549 0, nn] [vR 662 0, vR 549 0] (s_make 1 4 s268)) (fun f => cv_newa (f := f) (M := 312) (pc := 1222) (a := .int) (r := 1) hn rfl rfl rfl) (rc_ltM h fun s269 h => ?_)
  refine rg_step 1 (G' := fun f => evC f 312 1227 [oR 549 0, nn] [] (wF s269 549 159)) (fun _ => rfl) (rc_ltM h fun s270 h => ?_)
  refine rc_gd h fun hn h => ?_
  refine rg_step 2 (G' := fun f => evC f 312 1230 [oR 549 0, nn] [vI (cI 60), vR 549 0] s270) (fun _ => rfl) ?_
  refine rg_step 1 (G' := fun f => evC f 312 1232 [oR 549 0, nn] [vR 663 0, vR 549 0] (s_make 1 60 s270)) (fun f => cv_newa (f := f) (M := 312) (pc := 1230) (a := .int) (r := 1) hn rfl rfl rfl) (rc_ltM h fun s271 h => ?_)
  refine rg_step 1 (G' := fun f => evC f 312 1235 [oR 549 0, nn] [] (wF s271 549 160)) (fun _ => rfl) (rc_ltM h fun s272 h => ?_)
  refine rg_step 3 (G' := fun f => evC f 312 1240 [oR 549 0, nn] [] (wI s272 549 161 (cI (-1)))) (fun _ => rfl) (rc_ltM h fun s273 h => ?_)
  refine rc_gd h fun hn h => ?_
  refine rg_step 2 (G' := fun f => evC f 312 1243 [oR 549 0, nn] [vI (cI 21), vR 549 0] s273) (fun _ => rfl) ?_
  refine rg_step 1 (G' := fun f => evC f 312 1245 [oR 549 0, nn] [vR 664 0, vR 549 0] (s_make 1 21 s273)) (fun f => cv_newa (f := f) (M := 312) (pc := 1243) (a := .int) (r := 1) hn rfl rfl rfl) (rc_ltM h fun s274 h => ?_)
  refine rg_step 1 (G' := fun f => evC f 312 1248 [oR 549 0, nn] [] (wF s274 549 162)) (fun _ => rfl) (rc_ltM h fun s275 h => ?_)
  refine rc_gd h fun hn h => ?_
  refine rg_step 2 (G' := fun f => evC f 312 1251 [oR 549 0, nn] [vI (cI 21), vR 549 0] s275) (fun _ => rfl) ?_
  refine rg_step 1 (G' := fun f => evC f 312 1253 [oR 549 0, nn] [vR 665 0, vR 549 0] (s_make 1 21 s275)) (fun f => cv_newa (f := f) (M := 312) (pc := 1251) (a := .int) (r := 1) hn rfl rfl rfl) (rc_ltM h fun s276 h => ?_)
  refine rg_step 1 (G' := fun f => evC f 312 1256 [oR 549 0, nn] [] (wF s276 549 163)) (fun _ => rfl) (rc_ltM h fun s277 h => ?_)
  refine rc_gd h fun hn h => ?_
  refine rg_step 2 (G' := fun f => evC f 312 1259 [oR 549 0, nn] [vI (cI 21), vR 549 0] s277) (fun _ => rfl) ?_
  refine rg_step 1 (G' := fun f => evC f 312 1261 [oR 549 0, nn] [vR 666 0, vR 549 0] (s_make 1 21 s277)) (fun f => cv_newa (f := f) (M := 312) (pc := 1259) (a := .int) (r := 1) hn rfl rfl rfl) (rc_ltM h fun s278 h => ?_)
  refine rg_step 1 (G' := fun f => evC f 312 1264 [oR 549 0, nn] [] (wF s278 549 164)) (fun _ => rfl) (rc_ltM h fun s279 h => ?_)
  refine rc_gd h fun hn h => ?_
  refine rg_step 2 (G' := fun f => evC f 312 1268 [oR 549 0, nn] [vI (cI 2048), vR 549 0] s279) (fun _ => rfl) ?_
  refine rg_step 1 (G' := fun f => evC f 312 1270 [oR 549 0, nn] [vR 667 0, vR 549 0] (s_make 1 2048 s279)) (fun f => cv_newa (f := f) (M := 312) (pc := 1268) (a := .int) (r := 1) hn rfl rfl rfl) (rc_ltM h fun s280 h => ?_)
  refine rg_step 1 (G' := fun f => evC f 312 1273 [oR 549 0, nn] [] (wF s280 549 165)) (fun _ => rfl) (rc_ltM h fun s281 h => ?_)
  refine rc_gd h fun hn h => ?_
  refine rg_step 2 (G' := fun f => evC f 312 1277 [oR 549 0, nn] [vI (cI 300), vR 549 0] s281) (fun _ => rfl) ?_
  refine rg_step 1 (G' := fun f => evC f 312 1279 [oR 549 0, nn] [vR 668 0, vR 549 0] (s_make 1 300 s281)) (fun f => cv_newa (f := f) (M := 312) (pc := 1277) (a := .int) (r := 1) hn rfl rfl rfl) (rc_ltM h fun s282 h => ?_)
  refine rg_step 1 (G' := fun f => evC f 312 1282 [oR 549 0, nn] [] (wF s282 549 167)) (fun _ => rfl) (rc_ltM h fun s283 h => ?_)
  refine rc_gd h fun hn h => ?_
  refine rg_step 2 (G' := fun f => evC f 312 1286 [oR 549 0, nn] [vI (cI 300), vR 549 0] s283) (fun _ => rfl) ?_
  refine rg_step 1 (G' := fun f => evC f 312 1288 [oR 549 0, nn] [vR 669 0, vR 549 0] (s_make 1 300 s283)) (fun f => cv_newa (f := f) (M := 312) (pc := 1286) (a := .int) (r := 1) hn rfl rfl rfl) (rc_ltM h fun s284 h => ?_)
  refine rg_step 1 (G' := fun f => evC f 312 1291 [oR 549 0, nn] [] (wF s284 549 168)) (fun _ => rfl) (rc_ltM h fun s285 h => ?_)
  refine rc_gd h fun hn h => ?_
  refine rg_step 2 (G' := fun f => evC f 312 1295 [oR 549 0, nn] [vI (cI 300), vR 549 0] s285) (fun _ => rfl) ?_
  refine rg_step 1 (G' := fun f => evC f 312 1297 [oR 549 0, nn] [vR 670 0, vR 549 0] (s_make 1 300 s285)) (fun f => cv_newa (f := f) (M := 312) (pc := 1295) (a := .int) (r := 1) hn rfl rfl rfl) (rc_ltM h fun s286 h => ?_)
  refine rg_step 1 (G' := fun f => evC f 312 1300 [oR 549 0, nn] [] (wF s286 549 169)) (fun _ => rfl) (rc_ltM h fun s287 h => ?_)
  refine rc_gd h fun hn h => ?_
  refine rg_step 2 (G' := fun f => evC f 312 1304 [oR 549 0, nn] [vI (cI 300), vR 549 0] s287) (fun _ => rfl) ?_
  refine rg_step 1 (G' := fun f => evC f 312 1306 [oR 549 0, nn] [vR 671 0, vR 549 0] (s_make 1 300 s287)) (fun f => cv_newa (f := f) (M := 312) (pc := 1304) (a := .int) (r := 1) hn rfl rfl rfl) (rc_ltM h fun s288 h => ?_)
  refine rg_step 1 (G' := fun f => evC f 312 1309 [oR 549 0, nn] [] (wF s288 549 170)) (fun _ => rfl) (rc_ltM h fun s289 h => ?_)
  refine rc_gd h fun hn h => ?_
  refine rg_step 2 (G' := fun f => evC f 312 1313 [oR 549 0, nn] [vI (cI 300), vR 549 0] s289) (fun _ => rfl) ?_
  refine rg_step 1 (G' := fun f => evC f 312 1315 [oR 549 0, nn] [vR 672 0, vR 549 0] (s_make 1 300 s289)) (fun f => cv_newa (f := f) (M := 312) (pc := 1313) (a := .int) (r := 1) hn rfl rfl rfl) (rc_ltM h fun s290 h => ?_)
  refine rg_step 1 (G' := fun f => evC f 312 1318 [oR 549 0, nn] [] (wF s290 549 171)) (fun _ => rfl) (rc_ltM h fun s291 h => ?_)
  refine rc_gd h fun hn h => ?_
  refine rg_step 2 (G' := fun f => evC f 312 1321 [oR 549 0, nn] [vI (cI 16), vR 549 0] s291) (fun _ => rfl) ?_
  refine rg_step 1 (G' := fun f => evC f 312 1323 [oR 549 0, nn] [vR 673 0, vR 549 0] (s_make 1 16 s291)) (fun f => cv_newa (f := f) (M := 312) (pc := 1321) (a := .boolean) (r := 3) hn rfl rfl rfl) (rc_ltM h fun s292 h => ?_)
  refine rg_step 1 (G' := fun f => evC f 312 1326 [oR 549 0, nn] [] (wF s292 549 172)) (fun _ => rfl) (rc_ltM h fun s293 h => ?_)
  refine rc_gd h fun hn h => ?_
  refine rg_step 2 (G' := fun f => evC f 312 1329 [oR 549 0, nn] [vI (cI 16), vR 549 0] s293) (fun _ => rfl) ?_
  refine rg_step 1 (G' := fun f => evC f 312 1331 [oR 549 0, nn] [vR 674 0, vR 549 0] (s_make 1 16 s293)) (fun f => cv_newa (f := f) (M := 312) (pc := 1329) (a := .int) (r := 1) hn rfl rfl rfl) (rc_ltM h fun s294 h => ?_)
  refine rg_step 1 (G' := fun f => evC f 312 1334 [oR 549 0, nn] [] (wF s294 549 173)) (fun _ => rfl) (rc_ltM h fun s295 h => ?_)
  refine rc_gd h fun hn h => ?_
  refine rg_step 2 (G' := fun f => evC f 312 1337 [oR 549 0, nn] [vI (cI 12), vR 549 0] s295) (fun _ => rfl) ?_
  refine rg_step 1 (G' := fun f => evC f 312 1339 [oR 549 0, nn] [vR 675 0, vR 549 0] (s_make 1 12 s295)) (fun f => cv_newa (f := f) (M := 312) (pc := 1337) (a := .int) (r := 1) hn rfl rfl rfl) (rc_ltM h fun s296 h => ?_)
  refine rg_step 1 (G' := fun f => evC f 312 1342 [oR 549 0, nn] [] (wF s296 549 174)) (fun _ => rfl) (rc_ltM h fun s297 h => ?_)
  refine rc_gd h fun hn h => ?_
  refine rg_step 2 (G' := fun f => evC f 312 1345 [oR 549 0, nn] [vI (cI 12), vR 549 0] s297) (fun _ => rfl) ?_
  refine rg_step 1 (G' := fun f => evC f 312 1347 [oR 549 0, nn] [vR 676 0, vR 549 0] (s_make 1 12 s297)) (fun f => cv_newa (f := f) (M := 312) (pc := 1345) (a := .int) (r := 1) hn rfl rfl rfl) (rc_ltM h fun s298 h => ?_)
  refine rg_step 1 (G' := fun f => evC f 312 1350 [oR 549 0, nn] [] (wF s298 549 175)) (fun _ => rfl) (rc_ltM h fun s299 h => ?_)
  refine rc_gd h fun hn h => ?_
  refine rg_step 2 (G' := fun f => evC f 312 1353 [oR 549 0, nn] [vI (cI 12), vR 549 0] s299) (fun _ => rfl) ?_
  refine rg_step 1 (G' := fun f => evC f 312 1355 [oR 549 0, nn] [vR 677 0, vR 549 0] (s_make 1 12 s299)) (fun f => cv_newa (f := f) (M := 312) (pc := 1353) (a := .boolean) (r := 3) hn rfl rfl rfl) (rc_ltM h fun s300 h => ?_)
  refine rg_step 1 (G' := fun f => evC f 312 1358 [oR 549 0, nn] [] (wF s300 549 176)) (fun _ => rfl) (rc_ltM h fun s301 h => ?_)
  refine rc_gd h fun hn h => ?_
  refine rg_step 2 (G' := fun f => evC f 312 1361 [oR 549 0, nn] [vI (cI 40), vR 549 0] s301) (fun _ => rfl) ?_
  refine rg_step 1 (G' := fun f => evC f 312 1363 [oR 549 0, nn] [vR 678 0, vR 549 0] (s_make 1 40 s301)) (fun f => cv_newa (f := f) (M := 312) (pc := 1361) (a := .int) (r := 1) hn rfl rfl rfl) (rc_ltM h fun s302 h => ?_)
  refine rg_step 1 (G' := fun f => evC f 312 1366 [oR 549 0, nn] [] (wF s302 549 177)) (fun _ => rfl) (rc_ltM h fun s303 h => ?_)
  refine rc_gd h fun hn h => ?_
  refine rg_step 2 (G' := fun f => evC f 312 1369 [oR 549 0, nn] [vI (cI 40), vR 549 0] s303) (fun _ => rfl) ?_
  refine rg_step 1 (G' := fun f => evC f 312 1371 [oR 549 0, nn] [vR 679 0, vR 549 0] (s_make 1 40 s303)) (fun f => cv_newa (f := f) (M := 312) (pc := 1369) (a := .int) (r := 1) hn rfl rfl rfl) (rc_ltM h fun s304 h => ?_)
  refine rg_step 1 (G' := fun f => evC f 312 1374 [oR 549 0, nn] [] (wF s304 549 178)) (fun _ => rfl) (rc_ltM h fun s305 h => ?_)
  refine rc_gd h fun hn h => ?_
  refine rg_step 2 (G' := fun f => evC f 312 1377 [oR 549 0, nn] [vI (cI 40), vR 549 0] s305) (fun _ => rfl) ?_
  refine rg_step 1 (G' := fun f => evC f 312 1379 [oR 549 0, nn] [vR 680 0, vR 549 0] (s_make 1 40 s305)) (fun f => cv_newa (f := f) (M := 312) (pc := 1377) (a := .int) (r := 1) hn rfl rfl rfl) (rc_ltM h fun s306 h => ?_)
  refine rg_step 1 (G' := fun f => evC f 312 1382 [oR 549 0, nn] [] (wF s306 549 179)) (fun _ => rfl) (rc_ltM h fun s307 h => ?_)
  exact rg_step 2 (G' := fun f => evC f 312 1384 [oR 549 0, oI (cI 0)] [] s307) (fun _ => rfl) ((tc_gM_init_h1384) h)
