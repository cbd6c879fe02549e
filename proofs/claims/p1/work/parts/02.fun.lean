/-! ===== THE METHODS AS FUNCTIONS: combinators, texts, copies ===== -/
def ltM {α : Type} (v : ev_M) (B : ev_M → Option α) : Option α := B v
def ltI {α : Type} (v : Int32) (B : Int32 → Option α) : Option α := B v
def ltL {α : Type} (v : Int64) (B : Int64 → Option α) : Option α := B v
def bd1 {α β : Type} (o : Option β) (B : β → Option α) : Option α := match o with
  | some x => B x
  | none => none
def bd2 {α β γ : Type} (o : Option (β × γ)) (B : β → γ → Option α) : Option α := match o with
  | some x => B x.1 x.2
  | none => none
abbrev oI (x : Int32) : Option ev_V := some (vI x)
abbrev oL (x : Int64) : Option ev_V := some (vL x)
abbrev oR (g i : Nat) : Option ev_V := some (vR g i)
abbrev nn : Option ev_V := none
def cvI (q : ev_M × Int32) : ev_O := (q.1, [vI q.2])
def cvL (q : ev_M × Int64) : ev_O := (q.1, [vL q.2])
def cvV (s : ev_M) : ev_O := (s, [])
def cvP (s : ev_M) (x : Int32) : ev_O := (s, [vI x])
def cvPL (s : ev_M) (x : Int64) : ev_O := (s, [vL x])
abbrev iushr (x y : Int32) : Int32 := (x.toUInt32 >>> (y.toUInt32 &&& Int32.toUInt32 31)).toInt32
abbrev irem (x y : Int32) : Int32 := x - x / y * y
abbrev lrem (x y : Int64) : Int64 := x - x / y * y
abbrev i2b (x : Int32) : Int32 := x.toInt8.toInt32
abbrev i2c (x : Int32) : Int32 := (x.toUInt32 % 65536).toInt32
/-- the two texts, by their letters -/
def txtB : List Nat := [80, 35, 44, 64, 59, 83, 35, 44, 64, 44, 35, 44, 35, 44, 35, 59, 82, 35, 44, 64, 44, 35, 44, 35, 44, 35, 59, 72, 35, 44, 64, 44, 35, 59]
def txtM : List Nat := [75, 35, 44, 35, 61, 35, 59, 86, 35, 61, 35, 59]
def txtT (g : Nat) : List Nat := bif Nat.beq g 1010 then txtB else bif Nat.beq g 1011 then txtM else []
def ev_pos : List Nat → Nat → Int → Int
  | [], _, _ => -1
  | a :: r, c, k => bif Nat.beq a c then k else ev_pos r c (k + 1)
def fSlen (g : Nat) : Option Int32 := some (cI (txtT g).length)
def fSat (g : Nat) (i : Int32) : Option Int32 := if inb i (txtT g).length = true then some (cI (((txtT g).getD (ix i) 0 : Nat) : Int)) else none
def fSix (g : Nat) (c : Int32) : Option Int32 := if inb c 128 = true then some (cI (ev_pos (txtT g) (ix c) 0)) else none
/-- n ints of a, the first at i, come to b, the first at j; as if by way of a third row -/
def cpM (s : ev_M) (a b i j n : Nat) : ev_M := (fun c k => if c = b ∧ j ≤ k ∧ k < j + n then s.1 a (i + (k - j)) else s.1 c k, s.2)
def fACP (s : ev_M) (na nb a b : Nat) (i j n : Int32) : Option ev_M := if (0 ≤ i ∧ 0 ≤ j ∧ 0 ≤ n) ∧ ix i + ix n ≤ na ∧ ix j + ix n ≤ nb then some (cpM s a b (ix i) (ix j) (ix n)) else none
def fTape_append_1_h3 : Nat → ev_M → Int32 → Int32 → Option ev_M
  | 0, _, _, _ => none
  | n + 1, s, x1, x2 =>
    if x2 < 0 then
      some s
    else
      if (s.1 1 1) < (cI 4096) then
        ltM (wI s 1 1 ((s.1 1 1) + (cI 1))) fun s1 =>
        if inb (s.1 1 1) 4096 = true then
        ltM (wI s1 2 (ix (s.1 1 1)) (i2b (i2b (x1 >>> (x2 &&& 31))))) fun s2 =>
        (fTape_append_1_h3 n) s2 x1 (x2 + cI (-8))
        else none
      else
        some s
def fTape_append_1 (s : ev_M) (a1 : Int32) : Option ev_M :=
  fTape_append_1_h3 1048576 s a1 (cI 24)
def fPH_outside_b10 (s : ev_M) : Option Int32 :=
  some (cI 1)
def fPH_outside (s : ev_M) (a0 : Int32) (a1 : Int32) (a2 : Int32) : Option Int32 :=
  if a0 < a1 then
    fPH_outside_b10 s
  else
    if a0 ≤ a2 then
      some (cI 0)
    else
      fPH_outside_b10 s
def fLog_hasByte (s : ev_M) (a0 : Int32) (a1 : Int32) : Option Int32 :=
  bd1 (fPH_outside s a0 (cI 1) (cI 150)) fun v1 =>
  if v1 = 0 then
    bd1 (fPH_outside s a1 (cI 0) (cI 255)) fun v2 =>
    if v2 = 0 then
      some (cI 1)
    else
      some (cI 0)
  else
    some (cI 0)
def fLog_byteAt (s : ev_M) (a1 : Int32) (a2 : Int32) : Option Int32 :=
  bd1 (fLog_hasByte s a1 a2) fun v1 =>
  if v1 = 0 then
    some (cI (-1))
  else
    if inb (((a1 - (cI 1)) * (cI 256)) + a2) 38400 = true then
    some ((s.1 10 (ix (((a1 - (cI 1)) * (cI 256)) + a2))) &&& (cI 255))
    else none
def fLog_change_b28 (s : ev_M) (x1 : Int32) (x2 : Int32) : Option (ev_M × Int32) :=
  bd1 (fLog_byteAt s x1 x2) fun v1 =>
  some (s, v1)
def fLog_change (s : ev_M) (a1 : Int32) (a2 : Int32) (a3 : Int32) : Option (ev_M × Int32) :=
  bd1 (fLog_hasByte s a1 a2) fun v2 =>
  if v2 = 0 then
    fLog_change_b28 s a1 a2
  else
    if inb (((a1 - (cI 1)) * (cI 256)) + a2) 38400 = true then
    if inb (((a1 - (cI 1)) * (cI 256)) + a2) 38400 = true then
    ltM (wI s 10 (ix (((a1 - (cI 1)) * (cI 256)) + a2)) (i2b (i2b ((s.1 10 (ix (((a1 - (cI 1)) * (cI 256)) + a2))) ^^^ (i2b a3))))) fun s3 =>
    fLog_change_b28 s3 a1 a2
    else none
    else none
/-! ===== RUNS of the interpreter with fuel enough ===== -/
/-- a thing made and thrown, and caught: what it takes of the room -/
def mkX (s : ev_M) : ev_M := (s.1, (s.2.1, (s.2.2.1, (s.2.2.2.1, (s.2.2.2.2.1 + 4, s.2.2.2.2.2 + 64)))))
def fFeed (s : ev_M) (a b c d e : Int32) : Option (ev_M × Int32) :=
  if cI 4096 < s.1 1 1 + cI 20 then some (mkX s, cI 1) else
  bd1 (fTape_append_1 s a) fun s => bd1 (fTape_append_1 s b) fun s => bd1 (fTape_append_1 s c) fun s => bd1 (fTape_append_1 s d) fun s => bd1 (fTape_append_1 s e) fun s =>
  some (wL s 681 0 (s.1 1 1).toInt64, cI 0)
def fEnd (s : ev_M) (n : Int32) : Option (ev_M × Int32) :=
  if n < 0 ∨ s.1 1 1 < n then some (mkX s, cI 1) else some (wI s 1 1 n, cI 0)
def fOctet (s : ev_M) (b i : Int32) : Option (ev_M × Int32) :=
  bd1 (fLog_hasByte s b i) fun t => if t = 0 then some (mkX s, cI 1) else
  bd1 (fLog_byteAt s b i) fun r => some (wL s 681 0 r.toInt64, cI 0)
def fPoke (s : ev_M) (b i m : Int32) : Option (ev_M × Int32) :=
  bd1 (fLog_hasByte s b i) fun t => if t = 0 then some (mkX s, cI 1) else
  bd2 (fLog_change s b i m) fun s r => some (wL s 681 0 r.toInt64, cI 0)
def fM_note (s : ev_M) (a1 : Int32) : Option ev_M :=
  if inb (s.1 549 9) 37200 = true then
  ltM (wI s 552 (ix (s.1 549 9)) (i2b (i2b a1))) fun s1 =>
  ltM (wI s1 549 9 ((s1.1 549 9) + (cI 1))) fun s2 =>
  some s2
  else none
def fM_argumentsOf (s : ev_M) (a0 : Int32) : Option Int32 :=
  if a0 = cI 1 then
    some (cI 0)
  else
  if a0 = cI 2 then
    some (cI 4)
  else
  if a0 = cI 3 then
    some (cI 3)
  else
  if a0 = cI 4 then
    some (cI 1)
  else
  if a0 = cI 5 then
    some (cI 6)
  else
  if a0 = cI 6 then
    some (cI 2)
  else
  if a0 = cI 7 then
    some (cI 1)
  else
  if a0 = cI 8 then
    some (cI 3)
  else
  if a0 = cI 9 then
    some (cI 2)
  else
  if a0 = cI 10 then
    some (cI 4)
  else
  if a0 = cI 11 then
    some (cI 3)
  else
  if a0 = cI 12 then
    some (cI 2)
  else
  if a0 = cI 13 then
    some (cI 1)
  else
  if a0 = cI 14 then
    some (cI 1)
  else
  if a0 = cI 15 then
    some (cI 1)
  else
  if a0 = cI 16 then
    some (cI 5)
  else
  if a0 = cI 17 then
    some (cI 2)
  else
  if a0 = cI 18 then
    some (cI 2)
  else
  if a0 = cI 19 then
    some (cI 2)
  else
  if a0 = cI 20 then
    some (cI 1)
  else
  if a0 = cI 21 then
    some (cI 1)
  else
  if a0 = cI 22 then
    some (cI 4)
  else
  if a0 = cI 23 then
    some (cI 1)
  else
  if a0 = cI 24 then
    some (cI 1)
  else
  if a0 = cI 25 then
    some (cI 2)
  else
  if a0 = cI 26 then
    some (cI 4)
  else
  if a0 = cI 27 then
    some (cI 2)
  else
  if a0 = cI 28 then
    some (cI 1)
  else
  if a0 = cI 29 then
    some (cI 1)
  else
  if a0 = cI 30 then
    some (cI 2)
  else
  if a0 = cI 31 then
    some (cI 0)
  else
  if a0 = cI 32 then
    some (cI 1)
  else
  if a0 = cI 33 then
    some (cI 3)
  else
  if a0 = cI 34 then
    some (cI 3)
  else
  if a0 = cI 35 then
    some (cI 2)
  else
  if a0 = cI 36 then
    some (cI 2)
  else
  if a0 = cI 37 then
    some (cI 2)
  else
  if a0 = cI 38 then
    some (cI 4)
  else
  if a0 = cI 39 then
    some (cI 3)
  else
  if a0 = cI 40 then
    some (cI 1)
  else
  some (cI 6)
def fM_reads_b16 (s : ev_M) : Option Int32 :=
  some (cI 1)
def fM_reads (s : ev_M) (a0 : Int32) : Option Int32 :=
  if a0 = (cI 1) then
    fM_reads_b16 s
  else
    if a0 = (cI 4) then
      fM_reads_b16 s
    else
      if a0 = (cI 31) then
        fM_reads_b16 s
      else
        some (cI 0)
def fM_in (s : ev_M) (a0 : Int32) (a1 : Int32) (a2 : Int32) : Option Int32 :=
  if a0 < a1 then
    some (cI 0)
  else
    if a0 ≤ a2 then
      some (cI 1)
    else
      some (cI 0)
def fM_isCustomer (s : ev_M) (a1 : Int32) : Option Int32 :=
  bd1 (fM_in s a1 (cI 4) (((cI 4) + (s.1 549 111)) - (cI 1))) fun v1 =>
  if bz v1 = true then some v1 else none
def fM_no (s : ev_M) (a1 : Int32) : Option (ev_M × Int32) :=
  ltM (wI s 549 15 (cI 1)) fun s1 =>
  some (s1, a1)
def fM_full_b31 (s : ev_M) (y0 : Int32) (y1 : Int32) : Option Int32 :=
  ltI (y0 + y1) fun v1 =>
  if (s.1 549 14) = 0 then
    if (cI 248) = 0 then none else
    if (((((s.1 549 9) + v1) + (cI 248)) - (cI 1)) / (cI 248)) ≤ ((cI 150) - (s.1 549 4)) then
      some (cI 0)
    else
      some (cI 1)
  else
    some (cI 0)
def fM_full (s : ev_M) : Option Int32 :=
  bd1 (fM_argumentsOf s (s.1 549 16)) fun v2 =>
  bd1 (fM_reads s (s.1 549 16)) fun v3 =>
  if v3 = 0 then
    fM_full_b31 s ((cI 1) + ((cI 4) * v2)) (cI 0)
  else
    fM_full_b31 s ((cI 1) + ((cI 4) * v2)) ((cI 2) + (s.1 549 13))
def fM_doWish_b105 (s : ev_M) (x3 : Int32) (x4 : Int32) (y1 : Int32) (y2 : Int32) : Option (ev_M × Int32) :=
  if inb y1 30 = true then
  ltM (wI s 627 (ix y1) y2) fun s1 =>
  if x4 = x3 then
    some (s1, (cI 0))
  else
    some (s1, (cI 1))
  else none
def fM_doWish_b67 (s : ev_M) (x1 : Int32) (x2 : Int32) (x3 : Int32) (y0 : Int32) : Option (ev_M × Int32) :=
  if y0 = x3 then
    if inb (x1 - (cI 4)) 30 = true then
    fM_doWish_b105 s x3 y0 (x1 - (cI 4)) (s.1 627 (ix (x1 - (cI 4))))
    else none
  else
    if inb (x1 - (cI 4)) 30 = true then
    fM_doWish_b105 s x3 y0 (x1 - (cI 4)) ((s.1 627 (ix (x1 - (cI 4)))) ^^^ ((cI 1) <<< (x2 &&& 31)))
    else none
def fM_doWish (s : ev_M) (a1 : Int32) (a2 : Int32) (a3 : Int32) : Option (ev_M × Int32) :=
  bd1 (fM_isCustomer s a1) fun v2 =>
  if v2 = 0 then
    bd2 (fM_no s (cI (-101))) fun s3 v4 =>
    some (s3, v4)
  else
    bd1 (fM_in s a2 (cI 0) (cI 8)) fun v5 =>
    if v5 = 0 then
      bd2 (fM_no s (cI (-102))) fun s6 v7 =>
      some (s6, v7)
    else
      bd1 (fM_full s) fun v8 =>
      if v8 = 0 then
        if inb (a1 - (cI 4)) 30 = true then
        if (((s.1 627 (ix (a1 - (cI 4)))) >>> (a2 &&& 31)) &&& (cI 1)) = (cI 1) then
          fM_doWish_b67 s a1 a2 a3 (cI 1)
        else
          fM_doWish_b67 s a1 a2 a3 (cI 0)
        else none
      else
        bd2 (fM_no s (cI (-104))) fun s9 v10 =>
        some (s9, v10)
def fM_has_b22 (s : ev_M) : Option Int32 :=
  some (cI 1)
def fM_has (s : ev_M) (a0 : Int32) (a1 : Int32) (a2 : Int32) (a3 : Int32) : Option Int32 :=
  bd1 (fM_in s a3 a1 a2) fun v1 =>
  if v1 = 0 then
    some (cI 0)
  else
    if a0 = 0 then
      fM_has_b22 s
    else
      if (cI 2) = 0 then none else
      if (cI 2) = 0 then none else
      if (irem a3 (cI 2)) = (irem a0 (cI 2)) then
        fM_has_b22 s
      else
        some (cI 0)
def fM_inRange_b62 (s : ev_M) (k5 : Int32 → Int32 → Int32 → Int32 → Option Int32) (x1 : Int32) (x2 : Int32) (x4 : Int32) (y0 : Int32) : Option Int32 :=
  k5 x1 x2 y0 (x4 + cI 1)
def fM_inRange_b57 (s : ev_M) (k5 : Int32 → Int32 → Int32 → Int32 → Option Int32) (x1 : Int32) (x2 : Int32) (x4 : Int32) : Option Int32 :=
  fM_inRange_b62 s k5 x1 x2 x4 (cI 1)
def fM_inRange_b61 (s : ev_M) (k5 : Int32 → Int32 → Int32 → Int32 → Option Int32) (x1 : Int32) (x2 : Int32) (x4 : Int32) : Option Int32 :=
  fM_inRange_b62 s k5 x1 x2 x4 (cI 0)
def fM_inRange_h5 (s : ev_M) : Nat → Int32 → Int32 → Int32 → Int32 → Option Int32
  | 0, _, _, _, _ => none
  | n + 1, x1, x2, x3, x4 =>
    if x4 < (s.1 549 33) then
      if x3 = 0 then
        if inb x4 60 = true then
        if (s.1 565 (ix x4)) = x1 then
          if inb x4 60 = true then
          if inb x4 60 = true then
          if inb x4 60 = true then
          bd1 (fM_has s (s.1 566 (ix x4)) (s.1 567 (ix x4)) (s.1 568 (ix x4)) x2) fun v1 =>
          if v1 = 0 then
            fM_inRange_b61 s (fM_inRange_h5 s n) x1 x2 x4
          else
            fM_inRange_b57 s (fM_inRange_h5 s n) x1 x2 x4
          else none
          else none
          else none
        else
          fM_inRange_b61 s (fM_inRange_h5 s n) x1 x2 x4
        else none
      else
        fM_inRange_b57 s (fM_inRange_h5 s n) x1 x2 x4
    else
      if bz x3 = true then some x3 else none
def fM_inRange (s : ev_M) (a1 : Int32) (a2 : Int32) : Option Int32 :=
  fM_inRange_h5 s 1048576 a1 a2 (cI 0) (cI 0)
def fM_pointWith_b42 (s : ev_M) (k5 : Int32 → Int32 → Int32 → Int32 → Option Int32) (x1 : Int32) (x2 : Int32) (x4 : Int32) (y0 : Int32) : Option Int32 :=
  k5 x1 x2 y0 (x4 + cI 1)
def fM_pointWith_b41 (s : ev_M) (k5 : Int32 → Int32 → Int32 → Int32 → Option Int32) (x1 : Int32) (x2 : Int32) (x3 : Int32) (x4 : Int32) : Option Int32 :=
  fM_pointWith_b42 s k5 x1 x2 x4 x3
def fM_pointWith_h5 (s : ev_M) : Nat → Int32 → Int32 → Int32 → Int32 → Option Int32
  | 0, _, _, _, _ => none
  | n + 1, x1, x2, x3, x4 =>
    if x4 < (s.1 549 38) then
      if inb x4 120 = true then
      if (s.1 569 (ix x4)) = x1 then
        if inb x4 120 = true then
        if (s.1 570 (ix x4)) = x2 then
          fM_pointWith_b42 s (fM_pointWith_h5 s n) x1 x2 x4 x4
        else
          fM_pointWith_b41 s (fM_pointWith_h5 s n) x1 x2 x3 x4
        else none
      else
        fM_pointWith_b41 s (fM_pointWith_h5 s n) x1 x2 x3 x4
      else none
    else
      some x3
def fM_pointWith (s : ev_M) (a1 : Int32) (a2 : Int32) : Option Int32 :=
  fM_pointWith_h5 s 1048576 a1 a2 (cI (-1)) (cI 0)
def fM_addPoint (s : ev_M) (a1 : Int32) (a2 : Int32) : Option (ev_M × Int32) :=
  if a1 = (cI (-1)) then
    some (s, (cI 0))
  else
    bd1 (fM_inRange s a1 a2) fun v1 =>
    if v1 = 0 then
      some (s, (cI 0))
    else
      bd1 (fM_pointWith s a1 a2) fun v2 =>
      if v2 = (cI (-1)) then
        if (s.1 549 38) = (cI 120) then
          some (s, (cI 0))
        else
          if inb (s.1 549 38) 120 = true then
          ltM (wI s 569 (ix (s.1 549 38)) a1) fun s3 =>
          if inb (s3.1 549 38) 120 = true then
          ltM (wI s3 570 (ix (s3.1 549 38)) a2) fun s4 =>
          if inb (s4.1 549 38) 120 = true then
          ltM (wI s4 571 (ix (s4.1 549 38)) (cI (-1))) fun s5 =>
          ltM (wI s5 549 38 ((s5.1 549 38) + (cI 1))) fun s6 =>
          some (s6, (cI 1))
          else none
          else none
          else none
      else
        some (s, (cI 0))
def fM_placeWith_b27 (s : ev_M) (k4 : Int32 → Int32 → Int32 → Option Int32) (x1 : Int32) (x3 : Int32) (y0 : Int32) : Option Int32 :=
  k4 x1 y0 (x3 + cI 1)
def fM_placeWith_h4 (s : ev_M) : Nat → Int32 → Int32 → Int32 → Option Int32
  | 0, _, _, _ => none
  | n + 1, x1, x2, x3 =>
    if x3 < (s.1 549 24) then
      if inb x3 12 = true then
      if (s.1 558 (ix x3)) = x1 then
        fM_placeWith_b27 s (fM_placeWith_h4 s n) x1 x3 x3
      else
        fM_placeWith_b27 s (fM_placeWith_h4 s n) x1 x3 x2
      else none
    else
      some x2
def fM_placeWith (s : ev_M) (a1 : Int32) : Option Int32 :=
  fM_placeWith_h4 s 1048576 a1 (cI (-1)) (cI 0)
def fM_addPlace (s : ev_M) (a1 : Int32) (a2 : Int64) : Option (ev_M × Int32) :=
  bd1 (fM_in s a1 (cI 1) (cI 99999)) fun v1 =>
  if v1 = 0 then
    some (s, (cI 0))
  else
    bd1 (fM_placeWith s a1) fun v2 =>
    if v2 = (cI (-1)) then
      if (s.1 549 24) = (cI 12) then
        some (s, (cI 0))
      else
        if inb (s.1 549 24) 12 = true then
        ltM (wI s 558 (ix (s.1 549 24)) a1) fun s3 =>
        if inb (s3.1 549 24) 12 = true then
        ltM (wL s3 559 (ix (s3.1 549 24)) a2) fun s4 =>
        ltM (wI s4 549 24 ((s4.1 549 24) + (cI 1))) fun s5 =>
        some (s5, (cI 1))
        else none
        else none
    else
      some (s, (cI 0))
def fM_addRange_b82 (k51 : ev_M → Int32 → Int32 → Int32 → Int32 → Int32 → Option (ev_M × Int32)) (s : ev_M) (x1 : Int32) (x2 : Int32) (x3 : Int32) (x4 : Int32) (x5 : Int32) : Option (ev_M × Int32) :=
  k51 s x1 x2 x3 x4 (x5 + cI 1)
def fM_addRange_h51 : Nat → ev_M → Int32 → Int32 → Int32 → Int32 → Int32 → Option (ev_M × Int32)
  | 0, _, _, _, _, _, _ => none
  | n + 1, s, x1, x2, x3, x4, x5 =>
    if x5 ≤ x4 then
      bd1 (fM_has s x2 x3 x4 x5) fun v1 =>
      if v1 = 0 then
        fM_addRange_b82 (fM_addRange_h51 n) s x1 x2 x3 x4 x5
      else
        bd1 (fM_inRange s x1 x5) fun v2 =>
        if v2 = 0 then
          fM_addRange_b82 (fM_addRange_h51 n) s x1 x2 x3 x4 x5
        else
          some (s, (cI 0))
    else
      if inb (s.1 549 33) 60 = true then
      ltM (wI s 565 (ix (s.1 549 33)) x1) fun s3 =>
      if inb (s3.1 549 33) 60 = true then
      ltM (wI s3 566 (ix (s3.1 549 33)) x2) fun s4 =>
      if inb (s4.1 549 33) 60 = true then
      ltM (wI s4 567 (ix (s4.1 549 33)) x3) fun s5 =>
      if inb (s5.1 549 33) 60 = true then
      ltM (wI s5 568 (ix (s5.1 549 33)) x4) fun s6 =>
      ltM (wI s6 549 33 ((s6.1 549 33) + (cI 1))) fun s7 =>
      some (s7, (cI 1))
      else none
      else none
      else none
      else none
def fM_addRange (s : ev_M) (a1 : Int32) (a2 : Int32) (a3 : Int32) (a4 : Int32) : Option (ev_M × Int32) :=
  if a1 = (cI (-1)) then
    some (s, (cI 0))
  else
    bd1 (fM_in s a2 (cI 0) (cI 2)) fun v8 =>
    if v8 = 0 then
      some (s, (cI 0))
    else
      bd1 (fM_in s a3 (cI 1) (cI 999)) fun v9 =>
      if v9 = 0 then
        some (s, (cI 0))
      else
        bd1 (fM_in s a4 a3 (cI 999)) fun v10 =>
        if v10 = 0 then
          some (s, (cI 0))
        else
          if (s.1 549 33) = (cI 60) then
            some (s, (cI 0))
          else
            fM_addRange_h51 1048576 s a1 a2 a3 a4 a3
def fM_streetWith_b45 (s : ev_M) (k6 : Int32 → Int64 → Int32 → Int32 → Option Int32) (x1 : Int32) (x2 : Int64) (x5 : Int32) (y0 : Int32) : Option Int32 :=
  k6 x1 x2 y0 (x5 + cI 1)
def fM_streetWith_b43 (s : ev_M) (k6 : Int32 → Int64 → Int32 → Int32 → Option Int32) (x1 : Int32) (x2 : Int64) (x4 : Int32) (x5 : Int32) : Option Int32 :=
  fM_streetWith_b45 s k6 x1 x2 x5 x4
def fM_streetWith_h6 (s : ev_M) : Nat → Int32 → Int64 → Int32 → Int32 → Option Int32
  | 0, _, _, _, _ => none
  | n + 1, x1, x2, x4, x5 =>
    if x5 < (s.1 549 27) then
      if inb x5 30 = true then
      if (s.1 560 (ix x5)) = x1 then
        if inb x5 30 = true then
        if (lg_cmp (s.2.1 561 (ix x5)) x2) = 0 then
          fM_streetWith_b45 s (fM_streetWith_h6 s n) x1 x2 x5 x5
        else
          fM_streetWith_b43 s (fM_streetWith_h6 s n) x1 x2 x4 x5
        else none
      else
        fM_streetWith_b43 s (fM_streetWith_h6 s n) x1 x2 x4 x5
      else none
    else
      some x4
def fM_streetWith (s : ev_M) (a1 : Int32) (a2 : Int64) : Option Int32 :=
  fM_streetWith_h6 s 1048576 a1 a2 (cI (-1)) (cI 0)
def fM_addStreet (s : ev_M) (a1 : Int32) (a2 : Int64) (a3 : Int32) (a4 : Int32) (a5 : Int32) : Option (ev_M × Int32) :=
  if a1 = (cI (-1)) then
    some (s, (cI 0))
  else
    bd1 (fM_streetWith s a1 a2) fun v1 =>
    if v1 = (cI (-1)) then
      bd1 (fM_in s a3 (cI 0) (cI 999)) fun v2 =>
      if v2 = 0 then
        some (s, (cI 0))
      else
        bd1 (fM_in s a4 (cI 0) (cI 999)) fun v3 =>
        if v3 = 0 then
          some (s, (cI 0))
        else
          bd1 (fM_in s a5 (cI 0) (cI 3)) fun v4 =>
          if v4 = 0 then
            some (s, (cI 0))
          else
            if (s.1 549 27) = (cI 30) then
              some (s, (cI 0))
            else
              if inb (s.1 549 27) 30 = true then
              ltM (wI s 560 (ix (s.1 549 27)) a1) fun s5 =>
              if inb (s5.1 549 27) 30 = true then
              ltM (wL s5 561 (ix (s5.1 549 27)) a2) fun s6 =>
              if inb (s6.1 549 27) 30 = true then
              ltM (wI s6 562 (ix (s6.1 549 27)) a3) fun s7 =>
              if inb (s7.1 549 27) 30 = true then
              ltM (wI s7 563 (ix (s7.1 549 27)) a4) fun s8 =>
              if inb (s8.1 549 27) 30 = true then
              ltM (wI s8 564 (ix (s8.1 549 27)) a5) fun s9 =>
              ltM (wI s9 549 27 ((s9.1 549 27) + (cI 1))) fun s10 =>
              some (s10, (cI 1))
              else none
              else none
              else none
              else none
              else none
    else
      some (s, (cI 0))
def fM_look (s : ev_M) : Option Int32 :=
  if (s.1 549 139) < (s.1 549 13) then
    if inb (s.1 549 139) 4096 = true then
    some ((s.1 554 (ix (s.1 549 139))) &&& (cI 255))
    else none
  else
    some (cI (-1))
def fM_eat_b45 (s : ev_M) (y1 : Int32) : Option ev_M :=
  ltM (wI s 549 139 y1) fun s1 =>
  some s1
def fM_eat_b21 (s : ev_M) (y1 : Int32) : Option ev_M :=
  if bz y1 = true then
  ltM (wI s 549 140 y1) fun s2 =>
  if (s2.1 549 140) = 0 then
    fM_eat_b45 s2 ((s2.1 549 139) + (cI 1))
  else
    fM_eat_b45 s2 (s2.1 549 139)
  else none
def fM_eat_b16 (s : ev_M) : Option ev_M :=
  fM_eat_b21 s (cI 1)
def fM_eat (s : ev_M) (a1 : Int32) : Option ev_M :=
  if (s.1 549 140) = 0 then
    bd1 (fM_look s) fun v3 =>
    if v3 = a1 then
      fM_eat_b21 s (cI 0)
    else
      fM_eat_b16 s
  else
    fM_eat_b16 s
def fM_digits_b77 (s : ev_M) (x2 : Int32) (y1 : Int32) : Option (ev_M × Int32) :=
  if bz y1 = true then
  ltM (wI s 549 140 y1) fun s1 =>
  some (s1, x2)
  else none
def fM_digits_b72 (s : ev_M) (x2 : Int32) : Option (ev_M × Int32) :=
  fM_digits_b77 s x2 (cI 1)
def fM_digits_b60 (s : ev_M) (x1 : Int32) (x2 : Int32) : Option (ev_M × Int32) :=
  if (s.1 549 140) = 0 then
    if x1 = 0 then
      fM_digits_b72 s x2
    else
      fM_digits_b77 s x2 (cI 0)
  else
    fM_digits_b72 s x2
def fM_digits_h4 : Nat → ev_M → Int32 → Int32 → Option (ev_M × Int32)
  | 0, _, _, _ => none
  | n + 1, s, x1, x2 =>
    if (s.1 549 140) = 0 then
      if x1 < (cI 6) then
        bd1 (fM_look s) fun v2 =>
        bd1 (fM_in s v2 (cI 48) (cI 57)) fun v3 =>
        if v3 = 0 then
          fM_digits_b60 s x1 x2
        else
          bd1 (fM_look s) fun v4 =>
          ltI ((((cI 10) * x2) + v4) - (cI 48)) fun v5 =>
          ltM (wI s 549 139 ((s.1 549 139) + (cI 1))) fun s6 =>
          (fM_digits_h4 n) s6 (x1 + cI 1) v5
      else
        fM_digits_b60 s x1 x2
    else
      fM_digits_b60 s x1 x2
def fM_digits (s : ev_M) : Option (ev_M × Int32) :=
  fM_digits_h4 1048576 s (cI 0) (cI 0)
def fM_comma (s : ev_M) : Option (ev_M × Int32) :=
  bd1 (fM_eat s (cI 44)) fun s1 =>
  bd2 (fM_digits s1) fun s2 v3 =>
  some (s2, v3)
def fM_letters_b82 (s : ev_M) (x2 : Int64) (y1 : Int32) : Option (ev_M × Int64) :=
  if bz y1 = true then
  ltM (wI s 549 140 y1) fun s1 =>
  some (s1, x2)
  else none
def fM_letters_b77 (s : ev_M) (x2 : Int64) : Option (ev_M × Int64) :=
  fM_letters_b82 s x2 (cI 1)
def fM_letters_b65 (s : ev_M) (x1 : Int32) (x2 : Int64) : Option (ev_M × Int64) :=
  if (s.1 549 140) = 0 then
    if x1 = 0 then
      fM_letters_b77 s x2
    else
      fM_letters_b82 s x2 (cI 0)
  else
    fM_letters_b77 s x2
def fM_letters_h4 : Nat → ev_M → Int32 → Int64 → Option (ev_M × Int64)
  | 0, _, _, _ => none
  | n + 1, s, x1, x2 =>
    if (s.1 549 140) = 0 then
      if x1 < (cI 10) then
        bd1 (fM_look s) fun v2 =>
        bd1 (fM_in s v2 (cI 65) (cI 90)) fun v3 =>
        if v3 = 0 then
          fM_letters_b65 s x1 x2
        else
          bd1 (fM_look s) fun v4 =>
          ltL (((((cL 27) * x2) + (Int32.toInt64 v4)) - (cL 65)) + (cL 1)) fun v5 =>
          ltM (wI s 549 139 ((s.1 549 139) + (cI 1))) fun s6 =>
          (fM_letters_h4 n) s6 (x1 + cI 1) v5
      else
        fM_letters_b65 s x1 x2
    else
      fM_letters_b65 s x1 x2
def fM_letters (s : ev_M) : Option (ev_M × Int64) :=
  fM_letters_h4 1048576 s (cI 0) (cL 0)
def fM_entryOfBook_b246 (s : ev_M) (x5 : Int32) (x9 : Int32) : Option (ev_M × Int32) :=
  bd2 (fM_addPoint s x9 x5) fun s1 v2 =>
  if bz v2 = true then some (s1, v2) else none
def fM_entryOfBook_b177 (s : ev_M) (x1 : Int32) (x2 : Int32) (x3 : Int64) (x5 : Int32) (x6 : Int32) (x7 : Int32) (x8 : Int32) (y0 : Int32) : Option (ev_M × Int32) :=
  if x1 = cI 80 then
    bd2 (fM_addPlace s x2 x3) fun s3 v4 =>
    if bz v4 = true then some (s3, v4) else none
  else
  if x1 = cI 81 then
    fM_entryOfBook_b246 s x5 y0
  else
  if x1 = cI 82 then
    bd2 (fM_addRange s y0 x5 x6 x7) fun s5 v6 =>
    if bz v6 = true then some (s5, v6) else none
  else
  if x1 = cI 83 then
    bd2 (fM_addStreet s x8 x3 x5 x6 x7) fun s7 v8 =>
    if bz v8 = true then some (s7, v8) else none
  else
  fM_entryOfBook_b246 s x5 y0
def fM_entryOfBook_b136 (s : ev_M) (x1 : Int32) (x2 : Int32) (x3 : Int64) (x5 : Int32) (x6 : Int32) (y0 : Int32) : Option (ev_M × Int32) :=
  bd1 (fM_eat s (cI 59)) fun s9 =>
  if (s9.1 549 140) = 0 then
    bd1 (fM_placeWith s9 x2) fun v10 =>
    if v10 = (cI (-1)) then
      fM_entryOfBook_b177 s9 x1 x2 x3 x5 x6 y0 v10 (cI (-1))
    else
      bd1 (fM_streetWith s9 v10 x3) fun v11 =>
      fM_entryOfBook_b177 s9 x1 x2 x3 x5 x6 y0 v10 v11
  else
    some (s9, (cI 0))
def fM_entryOfBook_b128 (s : ev_M) (x1 : Int32) (x2 : Int32) (x3 : Int64) (x5 : Int32) (x6 : Int32) : Option (ev_M × Int32) :=
  bd2 (fM_comma s) fun s12 v13 =>
  fM_entryOfBook_b136 s12 x1 x2 x3 x5 x6 v13
def fM_entryOfBook_b114 (s : ev_M) (x1 : Int32) (x2 : Int32) (x3 : Int64) (x5 : Int32) (y0 : Int32) : Option (ev_M × Int32) :=
  if x1 = (cI 83) then
    fM_entryOfBook_b128 s x1 x2 x3 x5 y0
  else
    if x1 = (cI 82) then
      fM_entryOfBook_b128 s x1 x2 x3 x5 y0
    else
      fM_entryOfBook_b136 s x1 x2 x3 x5 y0 (cI 0)
def fM_entryOfBook_b106 (s : ev_M) (x1 : Int32) (x2 : Int32) (x3 : Int64) (x5 : Int32) : Option (ev_M × Int32) :=
  bd2 (fM_comma s) fun s14 v15 =>
  fM_entryOfBook_b114 s14 x1 x2 x3 x5 v15
def fM_entryOfBook_b92 (s : ev_M) (x1 : Int32) (x2 : Int32) (x3 : Int64) (y0 : Int32) : Option (ev_M × Int32) :=
  if x1 = (cI 83) then
    fM_entryOfBook_b106 s x1 x2 x3 y0
  else
    if x1 = (cI 82) then
      fM_entryOfBook_b106 s x1 x2 x3 y0
    else
      fM_entryOfBook_b114 s x1 x2 x3 y0 (cI 0)
def fM_entryOfBook_b59 (s : ev_M) (x1 : Int32) (y1 : Int32) : Option (ev_M × Int32) :=
  ltM (wI s 549 139 y1) fun s16 =>
  bd2 (fM_digits s16) fun s17 v18 =>
  bd1 (fM_eat s17 (cI 44)) fun s19 =>
  bd2 (fM_letters s19) fun s20 v21 =>
  if x1 = (cI 80) then
    fM_entryOfBook_b92 s20 x1 v18 v21 (cI 0)
  else
    bd2 (fM_comma s20) fun s22 v23 =>
    fM_entryOfBook_b92 s22 x1 v18 v21 v23
def fM_entryOfBook_b35 (s : ev_M) (x1 : Int32) (y1 : Int32) : Option (ev_M × Int32) :=
  if bz y1 = true then
  ltM (wI s 549 140 y1) fun s24 =>
  if (s24.1 549 140) = 0 then
    fM_entryOfBook_b59 s24 x1 ((s24.1 549 139) + (cI 1))
  else
    fM_entryOfBook_b59 s24 x1 (s24.1 549 139)
  else none
def fM_entryOfBook_b34 (s : ev_M) (x1 : Int32) : Option (ev_M × Int32) :=
  fM_entryOfBook_b35 s x1 (cI 0)
def fM_entryOfBook (s : ev_M) : Option (ev_M × Int32) :=
  bd1 (fM_look s) fun v25 =>
  if v25 = (cI 80) then
    fM_entryOfBook_b34 s v25
  else
    if v25 = (cI 83) then
      fM_entryOfBook_b34 s v25
    else
      if v25 = (cI 82) then
        fM_entryOfBook_b34 s v25
      else
        if v25 = (cI 72) then
          fM_entryOfBook_b34 s v25
        else
          fM_entryOfBook_b35 s v25 (cI 1)
def fM_doBook_b91 (k32 : ev_M → Int32 → Int32 → Int32 → Int32 → Int32 → Int32 → Option (ev_M × Int32)) (s : ev_M) (x1 : Int32) (x2 : Int32) (x3 : Int32) (x4 : Int32) (x5 : Int32) (y0 : Int32) : Option (ev_M × Int32) :=
  k32 s x1 x2 x3 x4 (x5 + cI 1) y0
def fM_doBook_b54 (k32 : ev_M → Int32 → Int32 → Int32 → Int32 → Int32 → Int32 → Option (ev_M × Int32)) (s : ev_M) (x1 : Int32) (x2 : Int32) (x3 : Int32) (x4 : Int32) (x5 : Int32) : Option (ev_M × Int32) :=
  ltI (s.1 549 139) fun v1 =>
  bd2 (fM_entryOfBook s) fun s2 v3 =>
  if v3 = 0 then
    if (s2.1 549 140) = 0 then
      fM_doBook_b91 k32 s2 x1 x2 x3 x4 x5 v1
    else
      fM_doBook_b91 k32 s2 x1 x2 x3 x4 x5 (s2.1 549 139)
  else
    fM_doBook_b91 k32 s2 x1 x2 x3 x4 x5 (cI (-1))
def fM_doBook_b168 (s : ev_M) (y1 : Int32) : Option (ev_M × Int32) :=
  bd2 (fM_no s y1) fun s4 v5 =>
  some (s4, v5)
def fM_doBook_b130 (s : ev_M) (x1 : Int32) (x2 : Int32) (x3 : Int32) (x4 : Int32) (x6 : Int32) (x7 : Int32) : Option (ev_M × Int32) :=
  ltM (wI s 549 24 x1) fun s6 =>
  ltM (wI s6 549 27 x2) fun s7 =>
  ltM (wI s7 549 33 x3) fun s8 =>
  ltM (wI s8 549 38 x4) fun s9 =>
  if x7 = 0 then
    fM_doBook_b168 s9 ((cI (-1000)) - x6)
  else
    fM_doBook_b168 s9 (cI (-104))
def fM_doBook_b117 (s : ev_M) (x1 : Int32) (x2 : Int32) (x3 : Int32) (x4 : Int32) (x5 : Int32) (x6 : Int32) (y0 : Int32) : Option (ev_M × Int32) :=
  if x6 = (cI (-1)) then
    if y0 = 0 then
      some (s, x5)
    else
      fM_doBook_b130 s x1 x2 x3 x4 x6 y0
  else
    fM_doBook_b130 s x1 x2 x3 x4 x6 y0
def fM_doBook_b116 (s : ev_M) (x1 : Int32) (x2 : Int32) (x3 : Int32) (x4 : Int32) (x5 : Int32) (x6 : Int32) : Option (ev_M × Int32) :=
  fM_doBook_b117 s x1 x2 x3 x4 x5 x6 (cI 0)
def fM_doBook_b99 (s : ev_M) (x1 : Int32) (x2 : Int32) (x3 : Int32) (x4 : Int32) (x5 : Int32) (x6 : Int32) : Option (ev_M × Int32) :=
  if x6 = (cI (-1)) then
    bd1 (fM_full s) fun v10 =>
    if v10 = 0 then
      fM_doBook_b116 s x1 x2 x3 x4 x5 x6
    else
      fM_doBook_b117 s x1 x2 x3 x4 x5 x6 (cI 1)
  else
    fM_doBook_b116 s x1 x2 x3 x4 x5 x6
def fM_doBook_h32 : Nat → ev_M → Int32 → Int32 → Int32 → Int32 → Int32 → Int32 → Option (ev_M × Int32)
  | 0, _, _, _, _, _, _, _ => none
  | n + 1, s, x1, x2, x3, x4, x5, x6 =>
    if x6 = (cI (-1)) then
      if (s.1 549 139) < (s.1 549 13) then
        fM_doBook_b54 (fM_doBook_h32 n) s x1 x2 x3 x4 x5
      else
        if x5 = 0 then
          fM_doBook_b54 (fM_doBook_h32 n) s x1 x2 x3 x4 x5
        else
          fM_doBook_b99 s x1 x2 x3 x4 x5 x6
    else
      fM_doBook_b99 s x1 x2 x3 x4 x5 x6
def fM_doBook (s : ev_M) : Option (ev_M × Int32) :=
  ltI (s.1 549 24) fun v11 =>
  ltI (s.1 549 27) fun v12 =>
  ltI (s.1 549 33) fun v13 =>
  ltI (s.1 549 38) fun v14 =>
  ltM (wI s 549 139 (cI 0)) fun s15 =>
  fM_doBook_h32 1048576 s15 v11 v12 v13 v14 (cI 0) (cI (-1))
def fM_today (s : ev_M) : Option Int32 :=
  if (cI 1440) = 0 then none else
  some ((s.1 549 22) / (cI 1440))
def fM_isPoint (s : ev_M) (a1 : Int32) : Option Int32 :=
  bd1 (fM_in s a1 (cI 0) ((s.1 549 38) - (cI 1))) fun v1 =>
  if bz v1 = true then some v1 else none
def fM_doNote_b21 (s : ev_M) : Option (ev_M × Int32) :=
  bd2 (fM_no s (cI (-101))) fun s1 v2 =>
  some (s1, v2)
def fM_doNote_b65 (s : ev_M) : Option (ev_M × Int32) :=
  bd2 (fM_no s (cI (-102))) fun s3 v4 =>
  some (s3, v4)
def fM_doNote_b88 (s : ev_M) : Option (ev_M × Int32) :=
  bd2 (fM_no s (cI (-104))) fun s5 v6 =>
  some (s5, v6)
def fM_doNote_b133 (s : ev_M) (x5 : Int32) (y1 : Int32) (y2 : Int32) : Option (ev_M × Int32) :=
  if inb y1 60 = true then
  ltM (wI s 575 (ix y1) y2) fun s7 =>
  if inb (s7.1 549 43) 60 = true then
  ltM (wI s7 576 (ix (s7.1 549 43)) x5) fun s8 =>
  ltM (wI s8 549 43 ((s8.1 549 43) + (cI 1))) fun s9 =>
  some (s9, ((s9.1 549 43) - (cI 1)))
  else none
  else none
def fM_doNote_b72 (s : ev_M) (x1 : Int32) (x2 : Int32) (x3 : Int32) (x4 : Int32) (x5 : Int32) : Option (ev_M × Int32) :=
  if (s.1 549 43) = (cI 60) then
    fM_doNote_b88 s
  else
    bd1 (fM_full s) fun v10 =>
    if v10 = 0 then
      if inb (s.1 549 43) 60 = true then
      ltM (wI s 573 (ix (s.1 549 43)) x1) fun s11 =>
      if inb (s11.1 549 43) 60 = true then
      ltM (wI s11 574 (ix (s11.1 549 43)) x2) fun s12 =>
      if x3 = 0 then
        fM_doNote_b133 s12 x5 (s12.1 549 43) (cI (-1))
      else
        fM_doNote_b133 s12 x5 (s12.1 549 43) x4
      else none
      else none
    else
      fM_doNote_b88 s
def fM_doNote_b28 (s : ev_M) (x1 : Int32) (x2 : Int32) (x3 : Int32) (x4 : Int32) (x5 : Int32) : Option (ev_M × Int32) :=
  bd1 (fM_in s x2 (cI 0) (cI 99)) fun v13 =>
  if v13 = 0 then
    fM_doNote_b65 s
  else
    bd1 (fM_today s) fun v14 =>
    if x5 ≤ v14 then
      fM_doNote_b65 s
    else
      if x5 ≤ (cI 100000) then
        if x3 = 0 then
          fM_doNote_b72 s x1 x2 x3 x4 x5
        else
          if x4 = x1 then
            fM_doNote_b65 s
          else
            fM_doNote_b72 s x1 x2 x3 x4 x5
      else
        fM_doNote_b65 s
def fM_doNote (s : ev_M) (a1 : Int32) (a2 : Int32) (a3 : Int32) (a4 : Int32) (a5 : Int32) : Option (ev_M × Int32) :=
  bd1 (fM_isPoint s a1) fun v15 =>
  if v15 = 0 then
    fM_doNote_b21 s
  else
    if a3 = 0 then
      fM_doNote_b28 s a1 a2 a3 a4 a5
    else
      bd1 (fM_isPoint s a4) fun v16 =>
      if v16 = 0 then
        fM_doNote_b21 s
      else
        fM_doNote_b28 s a1 a2 a3 a4 a5
def fM_part_b227 (k30 : ev_M → Int32 → Int32 → Int32 → Int32 → Int32 → Int32 → Option ev_M) (k115 : ev_M → Int32 → Int32 → Int32 → Int32 → Int32 → Int32 → Int32 → Int32 → Int32 → Option ev_M) (s : ev_M) (x1 : Int32) (x2 : Int32) (x3 : Int32) (x4 : Int32) (x5 : Int32) (x6 : Int32) (x7 : Int32) (x8 : Int32) (x9 : Int32) : Option ev_M :=
  k115 s x1 x2 x3 x4 x5 x6 x7 x8 (x9 + cI 1)
def fM_part_h115 (k30 : ev_M → Int32 → Int32 → Int32 → Int32 → Int32 → Int32 → Option ev_M) : Nat → ev_M → Int32 → Int32 → Int32 → Int32 → Int32 → Int32 → Int32 → Int32 → Int32 → Option ev_M
  | 0, _, _, _, _, _, _, _, _, _, _ => none
  | n + 1, s, x1, x2, x3, x4, x5, x6, x7, x8, x9 =>
    if x9 < (cI 9) then
      if (cI 3) = 0 then none else
      ltI ((x7 + (irem x9 (cI 3))) - (cI 1)) fun v1 =>
      if (cI 3) = 0 then none else
      ltI ((x8 + (x9 / (cI 3))) - (cI 1)) fun v2 =>
      bd1 (fM_in s v1 (cI 0) ((s.1 549 152) - (cI 1))) fun v3 =>
      if v3 = 0 then
        fM_part_b227 k30 (fM_part_h115 k30 n) s x1 x2 x3 x4 x5 x6 x7 x8 x9
      else
        bd1 (fM_in s v2 (cI 0) ((s.1 549 153) - (cI 1))) fun v4 =>
        if v4 = 0 then
          fM_part_b227 k30 (fM_part_h115 k30 n) s x1 x2 x3 x4 x5 x6 x7 x8 x9
        else
          if inb (((s.1 549 152) * v2) + v1) 4096 = true then
          if (s.1 650 (ix (((s.1 549 152) * v2) + v1))) = 0 then
            if inb (((s.1 549 152) * v2) + v1) 4096 = true then
            ltM (wI s 650 (ix (((s.1 549 152) * v2) + v1)) ((cI 1) &&& 1)) fun s5 =>
            if inb x3 4096 = true then
            ltM (wI s5 651 (ix x3) (((s5.1 549 152) * v2) + v1)) fun s6 =>
            fM_part_b227 k30 (fM_part_h115 k30 n) s6 x1 x2 (x3 + cI 1) x4 x5 x6 x7 x8 x9
            else none
            else none
          else
            fM_part_b227 k30 (fM_part_h115 k30 n) s x1 x2 x3 x4 x5 x6 x7 x8 x9
          else none
    else
      k30 s x1 x2 x3 x4 x5 x6
def fM_part_b110 (k30 : ev_M → Int32 → Int32 → Int32 → Int32 → Int32 → Int32 → Option ev_M) (s : ev_M) (x1 : Int32) (x2 : Int32) (x3 : Int32) (x4 : Int32) (x5 : Int32) (x7 : Int32) (x8 : Int32) (y0 : Int32) : Option ev_M :=
  fM_part_h115 k30 1048576 s x1 x2 x3 x4 x5 y0 x7 x8 (cI 0)
def fM_part_b94 (k30 : ev_M → Int32 → Int32 → Int32 → Int32 → Int32 → Int32 → Option ev_M) (s : ev_M) (x1 : Int32) (x2 : Int32) (x3 : Int32) (x4 : Int32) (x6 : Int32) (x7 : Int32) (x8 : Int32) (y0 : Int32) : Option ev_M :=
  if x8 ≤ x6 then
    fM_part_b110 k30 s x1 x2 x3 x4 y0 x7 x8 x6
  else
    fM_part_b110 k30 s x1 x2 x3 x4 y0 x7 x8 x8
def fM_part_b78 (k30 : ev_M → Int32 → Int32 → Int32 → Int32 → Int32 → Int32 → Option ev_M) (s : ev_M) (x1 : Int32) (x2 : Int32) (x3 : Int32) (x5 : Int32) (x6 : Int32) (x7 : Int32) (x8 : Int32) (y0 : Int32) : Option ev_M :=
  if x7 ≤ x5 then
    fM_part_b94 k30 s x1 x2 x3 y0 x6 x7 x8 x5
  else
    fM_part_b94 k30 s x1 x2 x3 y0 x6 x7 x8 x7
def fM_part_h30 : Nat → ev_M → Int32 → Int32 → Int32 → Int32 → Int32 → Int32 → Option ev_M
  | 0, _, _, _, _, _, _, _ => none
  | n + 1, s, x1, x2, x3, x4, x5, x6 =>
    if x2 < x3 then
      if inb x2 4096 = true then
      if (s.1 549 152) = 0 then none else
      ltI (irem (s.1 651 (ix x2)) (s.1 549 152)) fun v7 =>
      if inb x2 4096 = true then
      if (s.1 549 152) = 0 then none else
      ltI ((s.1 651 (ix x2)) / (s.1 549 152)) fun v8 =>
      if v7 < x4 then
        fM_part_b78 (fM_part_h30 n) s x1 (x2 + cI 1) x3 x5 x6 v7 v8 v7
      else
        fM_part_b78 (fM_part_h30 n) s x1 (x2 + cI 1) x3 x5 x6 v7 v8 x4
      else none
      else none
    else
      if x3 < (cI 4) then
        some s
      else
        if (s.1 549 146) < (cI 200) then
          if inb (s.1 549 146) 200 = true then
          ltM (wI s 652 (ix (s.1 549 146)) x4) fun s9 =>
          if (s9.1 549 152) = 0 then none else
          if inb (s9.1 549 146) 200 = true then
          ltM (wI s9 653 (ix (s9.1 549 146)) (x1 / (s9.1 549 152))) fun s10 =>
          if inb (s10.1 549 146) 200 = true then
          ltM (wI s10 654 (ix (s10.1 549 146)) ((x5 - x4) + (cI 1))) fun s11 =>
          if (s11.1 549 152) = 0 then none else
          if inb (s11.1 549 146) 200 = true then
          ltM (wI s11 655 (ix (s11.1 549 146)) ((x6 - (x1 / (s11.1 549 152))) + (cI 1))) fun s12 =>
          ltM (wI s12 549 146 ((s12.1 549 146) + (cI 1))) fun s13 =>
          some s13
          else none
          else none
          else none
          else none
        else
          some s
def fM_part (s : ev_M) (a1 : Int32) : Option ev_M :=
  ltM (wI s 651 (ix (cI 0)) a1) fun s14 =>
  if inb a1 4096 = true then
  ltM (wI s14 650 (ix a1) ((cI 1) &&& 1)) fun s15 =>
  ltI (s15.1 549 152) fun v16 =>
  fM_part_h30 1048576 s15 a1 (cI 0) (cI 1) v16 (cI 0) (cI 0)
  else none
def fM_areNear_b114 (s : ev_M) (x3 : Int32) (x4 : Int32) (y0 : Int32) : Option Int32 :=
  if ((cI 2) * (x4 - x3)) < y0 then
    some (cI 0)
  else
    some (cI 1)
def fM_areNear_b82 (s : ev_M) (x1 : Int32) (x2 : Int32) (x3 : Int32) (y0 : Int32) : Option Int32 :=
  if inb x1 200 = true then
  if inb x2 200 = true then
  if (s.1 655 (ix x1)) < (s.1 655 (ix x2)) then
    if inb x1 200 = true then
    fM_areNear_b114 s x3 y0 (s.1 655 (ix x1))
    else none
  else
    if inb x2 200 = true then
    fM_areNear_b114 s x3 y0 (s.1 655 (ix x2))
    else none
  else none
  else none
def fM_areNear_b30 (s : ev_M) (x1 : Int32) (x2 : Int32) (y0 : Int32) : Option Int32 :=
  if inb x1 200 = true then
  if inb x1 200 = true then
  ltI ((s.1 653 (ix x1)) + (s.1 655 (ix x1))) fun v1 =>
  if inb x2 200 = true then
  if inb x2 200 = true then
  if ((s.1 653 (ix x2)) + (s.1 655 (ix x2))) < v1 then
    if inb x2 200 = true then
    if inb x2 200 = true then
    fM_areNear_b82 s x1 x2 y0 ((s.1 653 (ix x2)) + (s.1 655 (ix x2)))
    else none
    else none
  else
    fM_areNear_b82 s x1 x2 y0 v1
  else none
  else none
  else none
  else none
def fM_areNear (s : ev_M) (a1 : Int32) (a2 : Int32) : Option Int32 :=
  if inb a1 200 = true then
  if inb a2 200 = true then
  if (s.1 653 (ix a1)) ≤ (s.1 653 (ix a2)) then
    if inb a2 200 = true then
    fM_areNear_b30 s a1 a2 (s.1 653 (ix a2))
    else none
  else
    if inb a1 200 = true then
    fM_areNear_b30 s a1 a2 (s.1 653 (ix a1))
    else none
  else none
  else none
def fM_hangTogether_b89 (k25 : ev_M → Int32 → Option ev_M) (k33 : ev_M → Int32 → Int32 → Option ev_M) (k43 : ev_M → Int32 → Int32 → Int32 → Option ev_M) (s : ev_M) (x1 : Int32) (x2 : Int32) (x3 : Int32) : Option ev_M :=
  k43 s x1 x2 (x3 + cI 1)
def fM_hangTogether_h43 (k25 : ev_M → Int32 → Option ev_M) (k33 : ev_M → Int32 → Int32 → Option ev_M) : Nat → ev_M → Int32 → Int32 → Int32 → Option ev_M
  | 0, _, _, _, _ => none
  | n + 1, s, x1, x2, x3 =>
    if x3 < (s.1 549 146) then
      if inb x3 200 = true then
      if inb x2 200 = true then
      if (s.1 656 (ix x3)) < (s.1 656 (ix x2)) then
        bd1 (fM_areNear s x2 x3) fun v1 =>
        if v1 = 0 then
          fM_hangTogether_b89 k25 k33 (fM_hangTogether_h43 k25 k33 n) s x1 x2 x3
        else
          if inb x3 200 = true then
          if inb x2 200 = true then
          ltM (wI s 656 (ix x2) (s.1 656 (ix x3))) fun s2 =>
          fM_hangTogether_b89 k25 k33 (fM_hangTogether_h43 k25 k33 n) s2 (cI 1) x2 x3
          else none
          else none
      else
        fM_hangTogether_b89 k25 k33 (fM_hangTogether_h43 k25 k33 n) s x1 x2 x3
      else none
      else none
    else
      k33 s x1 (x2 + cI 1)
def fM_hangTogether_h33 (k25 : ev_M → Int32 → Option ev_M) : Nat → ev_M → Int32 → Int32 → Option ev_M
  | 0, _, _, _ => none
  | n + 1, s, x1, x2 =>
    if x2 < (s.1 549 146) then
      fM_hangTogether_h43 k25 (fM_hangTogether_h33 k25 n) 1048576 s x1 x2 (cI 0)
    else
      k25 s x1
def fM_hangTogether_h25 : Nat → ev_M → Int32 → Option ev_M
  | 0, _, _ => none
  | n + 1, s, x1 =>
    if x1 = 0 then
      some s
    else
      fM_hangTogether_h33 (fM_hangTogether_h25 n) 1048576 s (cI 0) (cI 0)
def fM_hangTogether_h2 : Nat → ev_M → Int32 → Option ev_M
  | 0, _, _ => none
  | n + 1, s, x1 =>
    if x1 < (s.1 549 146) then
      if inb x1 200 = true then
      ltM (wI s 656 (ix x1) x1) fun s3 =>
      (fM_hangTogether_h2 n) s3 (x1 + cI 1)
      else none
    else
      fM_hangTogether_h25 1048576 s (cI 1)
def fM_hangTogether (s : ev_M) : Option ev_M :=
  fM_hangTogether_h2 1048576 s (cI 0)
def fM_topOf_b45 (s : ev_M) (k7 : Int32 → Int32 → Int32 → Option Int32) (x1 : Int32) (x3 : Int32) (y0 : Int32) : Option Int32 :=
  k7 x1 y0 (x3 + cI 1)
def fM_topOf_b44 (s : ev_M) (k7 : Int32 → Int32 → Int32 → Option Int32) (x1 : Int32) (x2 : Int32) (x3 : Int32) : Option Int32 :=
  fM_topOf_b45 s k7 x1 x3 x2
def fM_topOf_h7 (s : ev_M) : Nat → Int32 → Int32 → Int32 → Option Int32
  | 0, _, _, _ => none
  | n + 1, x1, x2, x3 =>
    if x3 < (s.1 549 146) then
      if inb x3 200 = true then
      if (s.1 656 (ix x3)) = x1 then
        if inb x3 200 = true then
        if (s.1 653 (ix x3)) < x2 then
          if inb x3 200 = true then
          fM_topOf_b45 s (fM_topOf_h7 s n) x1 x3 (s.1 653 (ix x3))
          else none
        else
          fM_topOf_b44 s (fM_topOf_h7 s n) x1 x2 x3
        else none
      else
        fM_topOf_b44 s (fM_topOf_h7 s n) x1 x2 x3
      else none
    else
      some x2
def fM_topOf (s : ev_M) (a1 : Int32) : Option Int32 :=
  ltI (s.1 549 153) fun v1 =>
  fM_topOf_h7 s 1048576 a1 v1 (cI 0)
def fM_isBefore (s : ev_M) (a1 : Int32) (a2 : Int32) : Option Int32 :=
  if inb a1 200 = true then
  if inb a2 200 = true then
  if (s.1 652 (ix a1)) = (s.1 652 (ix a2)) then
    if inb a1 200 = true then
    if inb a2 200 = true then
    if (s.1 653 (ix a1)) = (s.1 653 (ix a2)) then
      if a1 < a2 then
        some (cI 1)
      else
        some (cI 0)
    else
      if inb a1 200 = true then
      if inb a2 200 = true then
      if (s.1 653 (ix a1)) < (s.1 653 (ix a2)) then
        some (cI 1)
      else
        some (cI 0)
      else none
      else none
    else none
    else none
  else
    if inb a1 200 = true then
    if inb a2 200 = true then
    if (s.1 652 (ix a1)) < (s.1 652 (ix a2)) then
      some (cI 1)
    else
      some (cI 0)
    else none
    else none
  else none
  else none
def fM_cellsOf_b146 (s : ev_M) (k4 : Int32 → Int32 → Int32 → Option Int32) (k46 : Int32 → Int32 → Int32 → Int32 → Int32 → Int32 → Int32 → Int32 → Option Int32) (k91 : Int32 → Int32 → Int32 → Int32 → Int32 → Int32 → Int32 → Int32 → Int32 → Option Int32) (x1 : Int32) (x2 : Int32) (x3 : Int32) (x4 : Int32) (x5 : Int32) (x6 : Int32) (x8 : Int32) (x9 : Int32) (y0 : Int32) : Option Int32 :=
  k91 x1 x2 x3 x4 x5 x6 y0 x8 (x9 + cI 1)
def fM_cellsOf_h91 (s : ev_M) (k4 : Int32 → Int32 → Int32 → Option Int32) (k46 : Int32 → Int32 → Int32 → Int32 → Int32 → Int32 → Int32 → Int32 → Option Int32) : Nat → Int32 → Int32 → Int32 → Int32 → Int32 → Int32 → Int32 → Int32 → Int32 → Option Int32
  | 0, _, _, _, _, _, _, _, _, _ => none
  | n + 1, x1, x2, x3, x4, x5, x6, x7, x8, x9 =>
    if inb x1 200 = true then
    if inb x1 200 = true then
    if (cI 3) = 0 then none else
    if x9 < ((s.1 652 (ix x1)) + (((x5 + (cI 1)) * (s.1 654 (ix x1))) / (cI 3))) then
      if inb (((s.1 549 152) * x8) + x9) 4096 = true then
      if (s.1 649 (ix (((s.1 549 152) * x8) + x9))) = 0 then
        fM_cellsOf_b146 s k4 k46 (fM_cellsOf_h91 s k4 k46 n) x1 x2 x3 x4 x5 (x6 + cI 1) x8 x9 x7
      else
        fM_cellsOf_b146 s k4 k46 (fM_cellsOf_h91 s k4 k46 n) x1 x2 x3 x4 x5 (x6 + cI 1) x8 x9 (x7 + (cI 1))
      else none
    else
      k46 x1 x2 x3 x4 x5 x6 x7 (x8 + cI 1)
    else none
    else none
def fM_cellsOf_b182 (s : ev_M) (k4 : Int32 → Int32 → Int32 → Option Int32) (x1 : Int32) (x3 : Int32) (y0 : Int32) (y1 : Int32) : Option Int32 :=
  ltI (y0 ||| y1) fun v1 =>
  k4 x1 v1 (x3 + cI 1)
def fM_cellsOf_b181 (s : ev_M) (k4 : Int32 → Int32 → Int32 → Option Int32) (x1 : Int32) (x3 : Int32) (y0 : Int32) : Option Int32 :=
  fM_cellsOf_b182 s k4 x1 x3 y0 (cI 0)
def fM_cellsOf_h46 (s : ev_M) (k4 : Int32 → Int32 → Int32 → Option Int32) : Nat → Int32 → Int32 → Int32 → Int32 → Int32 → Int32 → Int32 → Int32 → Option Int32
  | 0, _, _, _, _, _, _, _, _ => none
  | n + 1, x1, x2, x3, x4, x5, x6, x7, x8 =>
    if inb x1 200 = true then
    if inb x1 200 = true then
    if (cI 5) = 0 then none else
    if x8 < ((s.1 653 (ix x1)) + (((x4 + (cI 1)) * (s.1 655 (ix x1))) / (cI 5))) then
      if inb x1 200 = true then
      if inb x1 200 = true then
      if (cI 3) = 0 then none else
      ltI ((s.1 652 (ix x1)) + ((x5 * (s.1 654 (ix x1))) / (cI 3))) fun v2 =>
      fM_cellsOf_h91 s k4 (fM_cellsOf_h46 s k4 n) 1048576 x1 x2 x3 x4 x5 x6 x7 x8 v2
      else none
      else none
    else
      if x6 ≤ 0 then
        fM_cellsOf_b181 s k4 x1 x3 (x2 <<< ((cI 1) &&& 31))
      else
        if ((cI 2) * x7) < x6 then
          fM_cellsOf_b181 s k4 x1 x3 (x2 <<< ((cI 1) &&& 31))
        else
          fM_cellsOf_b182 s k4 x1 x3 (x2 <<< ((cI 1) &&& 31)) (cI 1)
    else none
    else none
def fM_cellsOf_h4 (s : ev_M) : Nat → Int32 → Int32 → Int32 → Option Int32
  | 0, _, _, _ => none
  | n + 1, x1, x2, x3 =>
    if x3 < (cI 15) then
      if (cI 3) = 0 then none else
      ltI (x3 / (cI 3)) fun v3 =>
      if (cI 3) = 0 then none else
      ltI (irem x3 (cI 3)) fun v4 =>
      if inb x1 200 = true then
      if inb x1 200 = true then
      if (cI 5) = 0 then none else
      ltI ((s.1 653 (ix x1)) + ((v3 * (s.1 655 (ix x1))) / (cI 5))) fun v5 =>
      fM_cellsOf_h46 s (fM_cellsOf_h4 s n) 1048576 x1 x2 x3 v3 v4 (cI 0) (cI 0) v5
      else none
      else none
    else
      some x2
def fM_cellsOf (s : ev_M) (a1 : Int32) : Option Int32 :=
  fM_cellsOf_h4 s 1048576 a1 (cI 0) (cI 0)
def fM_lay_b88 (k15 : ev_M → Int32 → Int32 → Int32 → Int32 → Option ev_M) (k41 : ev_M → Int32 → Int32 → Int32 → Int32 → Int32 → Int32 → Option ev_M) (s : ev_M) (x1 : Int32) (x2 : Int32) (x3 : Int32) (x4 : Int32) (x6 : Int32) (y0 : Int32) : Option ev_M :=
  k41 s x1 x2 x3 x4 y0 (x6 + cI 1)
def fM_lay_b86 (k15 : ev_M → Int32 → Int32 → Int32 → Int32 → Option ev_M) (k41 : ev_M → Int32 → Int32 → Int32 → Int32 → Int32 → Int32 → Option ev_M) (s : ev_M) (x1 : Int32) (x2 : Int32) (x3 : Int32) (x4 : Int32) (x5 : Int32) (x6 : Int32) : Option ev_M :=
  fM_lay_b88 k15 k41 s x1 x2 x3 x4 x6 x5
def fM_lay_b174 (k15 : ev_M → Int32 → Int32 → Int32 → Int32 → Option ev_M) (s : ev_M) (x1 : Int32) (x2 : Int32) (x3 : Int32) (x4 : Int32) : Option ev_M :=
  k15 s x1 x2 x3 (x4 + cI 1)
def fM_lay_h41 (k15 : ev_M → Int32 → Int32 → Int32 → Int32 → Option ev_M) : Nat → ev_M → Int32 → Int32 → Int32 → Int32 → Int32 → Int32 → Option ev_M
  | 0, _, _, _, _, _, _, _ => none
  | n + 1, s, x1, x2, x3, x4, x5, x6 =>
    if x6 < (s.1 549 146) then
      if inb x6 200 = true then
      if (s.1 656 (ix x6)) = x1 then
        if x6 = x4 then
          fM_lay_b86 k15 (fM_lay_h41 k15 n) s x1 x2 x3 x4 x5 x6
        else
          bd1 (fM_isBefore s x6 x4) fun v1 =>
          if v1 = 0 then
            fM_lay_b86 k15 (fM_lay_h41 k15 n) s x1 x2 x3 x4 x5 x6
          else
            fM_lay_b88 k15 (fM_lay_h41 k15 n) s x1 x2 x3 x4 x6 (x5 + (cI 1))
      else
        fM_lay_b86 k15 (fM_lay_h41 k15 n) s x1 x2 x3 x4 x5 x6
      else none
    else
      ltI (x2 + x5) fun v2 =>
      if inb x4 200 = true then
      if inb v2 200 = true then
      ltM (wI s 578 (ix v2) (s.1 652 (ix x4))) fun s3 =>
      if inb x4 200 = true then
      if inb v2 200 = true then
      ltM (wI s3 579 (ix v2) (s3.1 653 (ix x4))) fun s4 =>
      if inb x4 200 = true then
      if inb v2 200 = true then
      ltM (wI s4 580 (ix v2) (s4.1 654 (ix x4))) fun s5 =>
      if inb x4 200 = true then
      if inb v2 200 = true then
      ltM (wI s5 581 (ix v2) (s5.1 655 (ix x4))) fun s6 =>
      bd1 (fM_cellsOf s6 x4) fun v7 =>
      if inb v2 200 = true then
      ltM (wI s6 582 (ix v2) v7) fun s8 =>
      fM_lay_b174 k15 s8 x1 x2 (x3 + cI 1) x4
      else none
      else none
      else none
      else none
      else none
      else none
      else none
      else none
      else none
def fM_lay_h15 : Nat → ev_M → Int32 → Int32 → Int32 → Int32 → Option ev_M
  | 0, _, _, _, _, _ => none
  | n + 1, s, x1, x2, x3, x4 =>
    if x4 < (s.1 549 146) then
      if inb x4 200 = true then
      if (s.1 656 (ix x4)) = x1 then
        fM_lay_h41 (fM_lay_h15 n) 1048576 s x1 x2 x3 x4 (cI 0) (cI 0)
      else
        fM_lay_b174 (fM_lay_h15 n) s x1 x2 x3 x4
      else none
    else
      ltM (wI s 549 51 ((s.1 549 51) + (cI 1))) fun s9 =>
      if inb (s9.1 549 51) 11 = true then
      ltM (wI s9 577 (ix (s9.1 549 51)) (x2 + x3)) fun s10 =>
      some s10
      else none
def fM_lay (s : ev_M) (a1 : Int32) : Option ev_M :=
  if inb (s.1 549 51) 11 = true then
  ltI (s.1 577 (ix (s.1 549 51))) fun v11 =>
  fM_lay_h15 1048576 s a1 v11 (cI 0) (cI 0)
  else none
def fM_findLines_b102 (k16 : ev_M → Int32 → Int32 → Option ev_M) (k34 : ev_M → Int32 → Int32 → Int32 → Option ev_M) (s : ev_M) (x1 : Int32) (x4 : Int32) (y0 : Int32) : Option ev_M :=
  k34 s x1 y0 (x4 + cI 1)
def fM_findLines_b96 (k16 : ev_M → Int32 → Int32 → Option ev_M) (k34 : ev_M → Int32 → Int32 → Int32 → Option ev_M) (s : ev_M) (x1 : Int32) (x4 : Int32) : Option ev_M :=
  fM_findLines_b102 k16 k34 s x1 x4 x4
def fM_findLines_b101 (k16 : ev_M → Int32 → Int32 → Option ev_M) (k34 : ev_M → Int32 → Int32 → Int32 → Option ev_M) (s : ev_M) (x1 : Int32) (x3 : Int32) (x4 : Int32) : Option ev_M :=
  fM_findLines_b102 k16 k34 s x1 x4 x3
def fM_findLines_b70 (k16 : ev_M → Int32 → Int32 → Option ev_M) (k34 : ev_M → Int32 → Int32 → Int32 → Option ev_M) (s : ev_M) (x1 : Int32) (x3 : Int32) (x4 : Int32) (y0 : Int32) : Option ev_M :=
  if y0 = 0 then
    fM_findLines_b101 k16 k34 s x1 x3 x4
  else
    if x3 = (cI (-1)) then
      fM_findLines_b96 k16 k34 s x1 x4
    else
      bd1 (fM_topOf s x4) fun v1 =>
      bd1 (fM_topOf s x3) fun v2 =>
      if v1 < v2 then
        fM_findLines_b96 k16 k34 s x1 x4
      else
        fM_findLines_b101 k16 k34 s x1 x3 x4
def fM_findLines_b69 (k16 : ev_M → Int32 → Int32 → Option ev_M) (k34 : ev_M → Int32 → Int32 → Int32 → Option ev_M) (s : ev_M) (x1 : Int32) (x3 : Int32) (x4 : Int32) : Option ev_M :=
  fM_findLines_b70 k16 k34 s x1 x3 x4 (cI 0)
def fM_findLines_b135 (k16 : ev_M → Int32 → Int32 → Option ev_M) (s : ev_M) (x1 : Int32) (x2 : Int32) : Option ev_M :=
  k16 s x1 x2
def fM_findLines_b119 (k16 : ev_M → Int32 → Int32 → Option ev_M) (s : ev_M) (x1 : Int32) (x3 : Int32) (y0 : Int32) : Option ev_M :=
  if y0 = 0 then
    fM_findLines_b135 k16 s x1 y0
  else
    bd1 (fM_topOf s x3) fun v3 =>
    bd1 (fM_lay s x3) fun s4 =>
    fM_findLines_b135 k16 s4 v3 y0
def fM_findLines_h34 (k16 : ev_M → Int32 → Int32 → Option ev_M) : Nat → ev_M → Int32 → Int32 → Int32 → Option ev_M
  | 0, _, _, _, _ => none
  | n + 1, s, x1, x3, x4 =>
    if x4 < (s.1 549 146) then
      if inb x4 200 = true then
      if (s.1 656 (ix x4)) = x4 then
        bd1 (fM_topOf s x4) fun v5 =>
        if v5 ≤ x1 then
          fM_findLines_b69 k16 (fM_findLines_h34 k16 n) s x1 x3 x4
        else
          fM_findLines_b70 k16 (fM_findLines_h34 k16 n) s x1 x3 x4 (cI 1)
      else
        fM_findLines_b69 k16 (fM_findLines_h34 k16 n) s x1 x3 x4
      else none
    else
      if x3 = (cI (-1)) then
        fM_findLines_b119 k16 s x1 x3 (cI 0)
      else
        fM_findLines_b119 k16 s x1 x3 (cI 1)
def fM_findLines_h16 : Nat → ev_M → Int32 → Int32 → Option ev_M
  | 0, _, _, _ => none
  | n + 1, s, x1, x2 =>
    if x2 = 0 then
      some s
    else
      if (s.1 549 51) < (cI 10) then
        fM_findLines_h34 (fM_findLines_h16 n) 1048576 s x1 (cI (-1)) (cI 0)
      else
        some s
def fM_findLines (s : ev_M) : Option ev_M :=
  ltM (wI s 549 51 (cI 0)) fun s6 =>
  ltM (wI s6 577 (ix (cI 0)) (cI 0)) fun s7 =>
  fM_findLines_h16 1048576 s7 (cI (-1)) (cI 1)
def fM_nearest_b119 (s : ev_M) (k13 : Int32 → Int32 → Int32 → Int32 → Int32 → Int32 → Int32 → Option Int32) (x1 : Int32) (x2 : Int32) (x3 : Int32) (x5 : Int32) (x6 : Int32) (x7 : Int32) (y0 : Int32) : Option Int32 :=
  k13 x1 x2 x3 y0 x5 x6 (x7 + cI 1)
def fM_nearest_b103 (s : ev_M) (k13 : Int32 → Int32 → Int32 → Int32 → Int32 → Int32 → Int32 → Option Int32) (x1 : Int32) (x2 : Int32) (x3 : Int32) (x4 : Int32) (x6 : Int32) (x7 : Int32) (x9 : Int32) (y0 : Int32) : Option Int32 :=
  if x9 < x4 then
    fM_nearest_b119 s k13 x1 x2 x3 y0 x6 x7 x9
  else
    fM_nearest_b119 s k13 x1 x2 x3 y0 x6 x7 x4
def fM_nearest_b85 (s : ev_M) (k13 : Int32 → Int32 → Int32 → Int32 → Int32 → Int32 → Int32 → Option Int32) (x1 : Int32) (x2 : Int32) (x3 : Int32) (x4 : Int32) (x5 : Int32) (x7 : Int32) (x9 : Int32) (y0 : Int32) : Option Int32 :=
  if x9 < x4 then
    fM_nearest_b103 s k13 x1 x2 x3 x4 y0 x7 x9 (x7 - x2)
  else
    fM_nearest_b103 s k13 x1 x2 x3 x4 y0 x7 x9 x5
def fM_nearest_b80 (s : ev_M) (k13 : Int32 → Int32 → Int32 → Int32 → Int32 → Int32 → Int32 → Option Int32) (x1 : Int32) (x2 : Int32) (x3 : Int32) (x4 : Int32) (x5 : Int32) (x7 : Int32) (x9 : Int32) : Option Int32 :=
  fM_nearest_b85 s k13 x1 x2 x3 x4 x5 x7 x9 (cI 1)
def fM_nearest_b84 (s : ev_M) (k13 : Int32 → Int32 → Int32 → Int32 → Int32 → Int32 → Int32 → Option Int32) (x1 : Int32) (x2 : Int32) (x3 : Int32) (x4 : Int32) (x5 : Int32) (x7 : Int32) (x9 : Int32) : Option Int32 :=
  fM_nearest_b85 s k13 x1 x2 x3 x4 x5 x7 x9 (cI 0)
def fM_nearest_h36 (s : ev_M) (k13 : Int32 → Int32 → Int32 → Int32 → Int32 → Int32 → Int32 → Option Int32) : Nat → Int32 → Int32 → Int32 → Int32 → Int32 → Int32 → Int32 → Int32 → Int32 → Int32 → Option Int32
  | 0, _, _, _, _, _, _, _, _, _, _ => none
  | n + 1, x1, x2, x3, x4, x5, x6, x7, x8, x9, x10 =>
    if x10 < (cI 15) then
      ltI (x9 + ((x8 >>> (x10 &&& 31)) &&& (cI 1))) fun v1 =>
      (fM_nearest_h36 s k13 n) x1 x2 x3 x4 x5 x6 x7 x8 v1 (x10 + cI 1)
    else
      if x9 = x4 then
        fM_nearest_b80 s k13 x1 x2 x3 x4 x5 x7 x9
      else
        if x6 = 0 then
          fM_nearest_b84 s k13 x1 x2 x3 x4 x5 x7 x9
        else
          if x9 ≤ x4 then
            fM_nearest_b84 s k13 x1 x2 x3 x4 x5 x7 x9
          else
            fM_nearest_b80 s k13 x1 x2 x3 x4 x5 x7 x9
def fM_nearest_b138 (s : ev_M) : Option Int32 :=
  some (cI (-1))
def fM_nearest_h13 (s : ev_M) : Nat → Int32 → Int32 → Int32 → Int32 → Int32 → Int32 → Int32 → Option Int32
  | 0, _, _, _, _, _, _, _ => none
  | n + 1, x1, x2, x3, x4, x5, x6, x7 =>
    if x7 < x3 then
      if inb x7 36 = true then
      ltI ((s.1 657 (ix x7)) ^^^ x1) fun v2 =>
      fM_nearest_h36 s (fM_nearest_h13 s n) 1048576 x1 x2 x3 x4 x5 x6 x7 v2 (cI 0) (cI 0)
      else none
    else
      if x4 ≤ (cI 3) then
        if x6 = 0 then
          some x5
        else
          fM_nearest_b138 s
      else
        fM_nearest_b138 s
def fM_nearest (s : ev_M) (a1 : Int32) (a2 : Int32) (a3 : Int32) : Option Int32 :=
  fM_nearest_h13 s 1048576 a1 a2 a3 (cI 16) (cI (-1)) (cI 0) a2
def fM_changes_b239 (k99 : ev_M → Int32 → Int32 → Int32 → Int32 → Option (ev_M × Int32)) (k146 : ev_M → Int32 → Int32 → Int32 → Int32 → Int32 → Int32 → Int32 → Option (ev_M × Int32)) (s : ev_M) (x3 : Int32) (x4 : Int32) (x5 : Int32) (x8 : Int32) (x9 : Int32) (x11 : Int32) (y0 : Int32) : Option (ev_M × Int32) :=
  if inb x11 11 = true then
  ltI (s.1 659 (ix x11)) fun v1 =>
  if inb x11 11 = true then
  ltM (wI s 659 (ix x11) y0) fun s2 =>
  k146 s2 x3 x4 x5 x8 x9 v1 (x11 + cI 1)
  else none
  else none
def fM_changes_b205 (k99 : ev_M → Int32 → Int32 → Int32 → Int32 → Option (ev_M × Int32)) (k146 : ev_M → Int32 → Int32 → Int32 → Int32 → Int32 → Int32 → Int32 → Option (ev_M × Int32)) (s : ev_M) (x3 : Int32) (x4 : Int32) (x5 : Int32) (x8 : Int32) (x9 : Int32) (x11 : Int32) (y0 : Int32) : Option (ev_M × Int32) :=
  if inb (x11 - (cI 1)) 11 = true then
  if ((s.1 659 (ix (x11 - (cI 1)))) + (cI 1)) < y0 then
    if inb (x11 - (cI 1)) 11 = true then
    fM_changes_b239 k99 k146 s x3 x4 x5 x8 x9 x11 ((s.1 659 (ix (x11 - (cI 1)))) + (cI 1))
    else none
  else
    fM_changes_b239 k99 k146 s x3 x4 x5 x8 x9 x11 y0
  else none
def fM_changes_b174 (k99 : ev_M → Int32 → Int32 → Int32 → Int32 → Option (ev_M × Int32)) (k146 : ev_M → Int32 → Int32 → Int32 → Int32 → Int32 → Int32 → Int32 → Option (ev_M × Int32)) (s : ev_M) (x3 : Int32) (x4 : Int32) (x5 : Int32) (x8 : Int32) (x9 : Int32) (x11 : Int32) (y0 : Int32) (y1 : Int32) : Option (ev_M × Int32) :=
  ltI (y0 + y1) fun v3 =>
  if inb x11 11 = true then
  if ((s.1 659 (ix x11)) + (cI 1)) < v3 then
    if inb x11 11 = true then
    fM_changes_b205 k99 k146 s x3 x4 x5 x8 x9 x11 ((s.1 659 (ix x11)) + (cI 1))
    else none
  else
    fM_changes_b205 k99 k146 s x3 x4 x5 x8 x9 x11 v3
  else none
def fM_changes_h146 (k99 : ev_M → Int32 → Int32 → Int32 → Int32 → Option (ev_M × Int32)) : Nat → ev_M → Int32 → Int32 → Int32 → Int32 → Int32 → Int32 → Int32 → Option (ev_M × Int32)
  | 0, _, _, _, _, _, _, _, _ => none
  | n + 1, s, x3, x4, x5, x8, x9, x10, x11 =>
    if x11 ≤ x5 then
      if inb (x11 - (cI 1)) 10 = true then
      if (s.1 658 (ix (x11 - (cI 1)))) = x9 then
        fM_changes_b174 k99 (fM_changes_h146 k99 n) s x3 x4 x5 x8 x9 x11 x10 (cI 0)
      else
        fM_changes_b174 k99 (fM_changes_h146 k99 n) s x3 x4 x5 x8 x9 x11 x10 (cI 1)
      else none
    else
      k99 s x3 x4 x5 (x8 + cI 1)
def fM_changes_h99 : Nat → ev_M → Int32 → Int32 → Int32 → Int32 → Option (ev_M × Int32)
  | 0, _, _, _, _, _ => none
  | n + 1, s, x3, x4, x5, x8 =>
    if x8 < x4 then
      if inb x8 200 = true then
      bd1 (fM_nearest s (s.1 582 (ix x8)) (cI 10) (cI 36)) fun v4 =>
      ltI (s.1 659 (ix (cI 0))) fun v5 =>
      ltM (wI s 659 (ix (cI 0)) ((x8 - x3) + (cI 1))) fun s6 =>
      fM_changes_h146 (fM_changes_h99 n) 1048576 s6 x3 x4 x5 x8 v4 v5 (cI 1)
      else none
    else
      if inb x5 11 = true then
      some (s, (s.1 659 (ix x5)))
      else none
def fM_changes_h74 : Nat → ev_M → Int32 → Int32 → Int32 → Int32 → Option (ev_M × Int32)
  | 0, _, _, _, _, _ => none
  | n + 1, s, x3, x4, x5, x8 =>
    if x8 ≤ x5 then
      if inb x8 11 = true then
      ltM (wI s 659 (ix x8) x8) fun s7 =>
      (fM_changes_h74 n) s7 x3 x4 x5 (x8 + cI 1)
      else none
    else
      fM_changes_h99 1048576 s x3 x4 x5 x3
def fM_changes_h36 : Nat → ev_M → Int32 → Int32 → Int32 → Int64 → Int32 → Option (ev_M × Int32)
  | 0, _, _, _, _, _, _ => none
  | n + 1, s, x3, x4, x5, x6, x8 =>
    if x8 < 0 then
      fM_changes_h74 1048576 s x3 x4 x5 (cI 0)
    else
      if (cL 27) = 0 then none else
      if inb x8 10 = true then
      ltM (wI s 658 (ix x8) ((Int64.toInt32 (lrem x6 (cL 27))) - (cI 1))) fun s8 =>
      if (cL 27) = 0 then none else
      ltL (x6 / (cL 27)) fun v9 =>
      (fM_changes_h36 n) s8 x3 x4 x5 v9 (x8 + cI (-1))
      else none
def fM_changes_h6 : Nat → ev_M → Int64 → Int32 → Int32 → Int32 → Int64 → Option (ev_M × Int32)
  | 0, _, _, _, _, _, _ => none
  | n + 1, s, x1, x3, x4, x5, x6 =>
    if (lg_cmp x6 (cL 0)) ≤ 0 then
      ltI (x5 - (cI 1)) fun v10 =>
      fM_changes_h36 1048576 s x3 x4 x5 x1 v10
    else
      if (cL 27) = 0 then none else
      ltL (x6 / (cL 27)) fun v11 =>
      (fM_changes_h6 n) s x1 x3 x4 (x5 + cI 1) v11
def fM_changes (s : ev_M) (a1 : Int64) (a2 : Int32) (a3 : Int32) : Option (ev_M × Int32) :=
  fM_changes_h6 1048576 s a1 a2 a3 (cI 0) a1
def fM_nearestStreet_b105 (k12 : ev_M → Int32 → Int32 → Int32 → Int32 → Int32 → Int32 → Int32 → Option (ev_M × Int32)) (s : ev_M) (x1 : Int32) (x2 : Int32) (x3 : Int32) (x4 : Int32) (x5 : Int32) (x6 : Int32) (x7 : Int32) : Option (ev_M × Int32) :=
  k12 s x1 x2 x3 x4 x5 x6 (x7 + cI 1)
def fM_nearestStreet_b103 (k12 : ev_M → Int32 → Int32 → Int32 → Int32 → Int32 → Int32 → Int32 → Option (ev_M × Int32)) (s : ev_M) (x1 : Int32) (x2 : Int32) (x3 : Int32) (x5 : Int32) (x6 : Int32) (x7 : Int32) (y0 : Int32) : Option (ev_M × Int32) :=
  fM_nearestStreet_b105 k12 s x1 x2 x3 y0 x5 x6 x7
def fM_nearestStreet_b87 (k12 : ev_M → Int32 → Int32 → Int32 → Int32 → Int32 → Int32 → Int32 → Option (ev_M × Int32)) (s : ev_M) (x1 : Int32) (x2 : Int32) (x3 : Int32) (x4 : Int32) (x6 : Int32) (x7 : Int32) (x8 : Int32) (y0 : Int32) : Option (ev_M × Int32) :=
  if x8 < x4 then
    fM_nearestStreet_b103 k12 s x1 x2 x3 y0 x6 x7 x8
  else
    fM_nearestStreet_b103 k12 s x1 x2 x3 y0 x6 x7 x4
def fM_nearestStreet_b71 (k12 : ev_M → Int32 → Int32 → Int32 → Int32 → Int32 → Int32 → Int32 → Option (ev_M × Int32)) (s : ev_M) (x1 : Int32) (x2 : Int32) (x3 : Int32) (x4 : Int32) (x5 : Int32) (x7 : Int32) (x8 : Int32) (y0 : Int32) : Option (ev_M × Int32) :=
  if x8 < x4 then
    fM_nearestStreet_b87 k12 s x1 x2 x3 x4 y0 x7 x8 x7
  else
    fM_nearestStreet_b87 k12 s x1 x2 x3 x4 y0 x7 x8 x5
def fM_nearestStreet_b66 (k12 : ev_M → Int32 → Int32 → Int32 → Int32 → Int32 → Int32 → Int32 → Option (ev_M × Int32)) (s : ev_M) (x1 : Int32) (x2 : Int32) (x3 : Int32) (x4 : Int32) (x5 : Int32) (x7 : Int32) (x8 : Int32) : Option (ev_M × Int32) :=
  fM_nearestStreet_b71 k12 s x1 x2 x3 x4 x5 x7 x8 (cI 1)
def fM_nearestStreet_b70 (k12 : ev_M → Int32 → Int32 → Int32 → Int32 → Int32 → Int32 → Int32 → Option (ev_M × Int32)) (s : ev_M) (x1 : Int32) (x2 : Int32) (x3 : Int32) (x4 : Int32) (x5 : Int32) (x7 : Int32) (x8 : Int32) : Option (ev_M × Int32) :=
  fM_nearestStreet_b71 k12 s x1 x2 x3 x4 x5 x7 x8 (cI 0)
def fM_nearestStreet_h12 : Nat → ev_M → Int32 → Int32 → Int32 → Int32 → Int32 → Int32 → Int32 → Option (ev_M × Int32)
  | 0, _, _, _, _, _, _, _, _ => none
  | n + 1, s, x1, x2, x3, x4, x5, x6, x7 =>
    if x7 < (s.1 549 27) then
      if inb x7 30 = true then
      if (s.1 560 (ix x7)) = x1 then
        if inb x7 30 = true then
        bd2 (fM_changes s (s.2.1 561 (ix x7)) x2 x3) fun s1 v2 =>
        if v2 = x4 then
          fM_nearestStreet_b66 (fM_nearestStreet_h12 n) s1 x1 x2 x3 x4 x5 x7 v2
        else
          if x6 = 0 then
            fM_nearestStreet_b70 (fM_nearestStreet_h12 n) s1 x1 x2 x3 x4 x5 x7 v2
          else
            if v2 ≤ x4 then
              fM_nearestStreet_b70 (fM_nearestStreet_h12 n) s1 x1 x2 x3 x4 x5 x7 v2
            else
              fM_nearestStreet_b66 (fM_nearestStreet_h12 n) s1 x1 x2 x3 x4 x5 x7 v2
        else none
      else
        fM_nearestStreet_b105 (fM_nearestStreet_h12 n) s x1 x2 x3 x4 x5 x6 x7
      else none
    else
      if x6 = 0 then
        some (s, x5)
      else
        some (s, (cI (-1)))
def fM_nearestStreet (s : ev_M) (a1 : Int32) (a2 : Int32) (a3 : Int32) : Option (ev_M × Int32) :=
  fM_nearestStreet_h12 1048576 s a1 a2 a3 (cI 3) (cI (-1)) (cI 0) (cI 0)
def fM_beginsWord_b44 (s : ev_M) : Option Int32 :=
  some (cI 1)
def fM_beginsWord (s : ev_M) (a1 : Int32) (a2 : Int32) : Option Int32 :=
  if a1 = a2 then
    fM_beginsWord_b44 s
  else
    if inb a1 200 = true then
    if inb (a1 - (cI 1)) 200 = true then
    if inb (a1 - (cI 1)) 200 = true then
    if inb (a1 - (cI 1)) 200 = true then
    if ((cI 5) * (((s.1 578 (ix a1)) - (s.1 578 (ix (a1 - (cI 1))))) - (s.1 580 (ix (a1 - (cI 1)))))) < ((cI 2) * (s.1 581 (ix (a1 - (cI 1))))) then
      some (cI 0)
    else
      fM_beginsWord_b44 s
    else none
    else none
    else none
    else none
def fM_numberOf_b59 (s : ev_M) (k6 : Int32 → Int32 → Int32 → Int32 → Int32 → Option Int32) (x1 : Int32) (x2 : Int32) (x3 : Int32) (x5 : Int32) (y0 : Int32) : Option Int32 :=
  k6 x1 x2 x3 y0 (x5 + cI 1)
def fM_numberOf_b47 (s : ev_M) (k6 : Int32 → Int32 → Int32 → Int32 → Int32 → Option Int32) (x1 : Int32) (x2 : Int32) (x3 : Int32) (x5 : Int32) : Option Int32 :=
  fM_numberOf_b59 s k6 x1 x2 x3 x5 (cI (-1))
def fM_numberOf_h6 (s : ev_M) : Nat → Int32 → Int32 → Int32 → Int32 → Int32 → Option Int32
  | 0, _, _, _, _, _ => none
  | n + 1, x1, x2, x3, x4, x5 =>
    if x5 < x2 then
      if inb x5 200 = true then
      bd1 (fM_nearest s (s.1 582 (ix x5)) (cI 0) (cI 10)) fun v1 =>
      if v1 = (cI (-1)) then
        fM_numberOf_b47 s (fM_numberOf_h6 s n) x1 x2 x3 x5
      else
        if x4 = (cI (-1)) then
          fM_numberOf_b47 s (fM_numberOf_h6 s n) x1 x2 x3 x5
        else
          if (x2 - x1) ≤ x3 then
            fM_numberOf_b59 s (fM_numberOf_h6 s n) x1 x2 x3 x5 (((cI 10) * x4) + v1)
          else
            fM_numberOf_b47 s (fM_numberOf_h6 s n) x1 x2 x3 x5
      else none
    else
      some x4
def fM_numberOf (s : ev_M) (a1 : Int32) (a2 : Int32) (a3 : Int32) : Option Int32 :=
  fM_numberOf_h6 s 1048576 a1 a2 a3 (cI 0) a1
def fM_readAddress_b143 (s : ev_M) (x4 : Int32) (x5 : Int32) (x6 : Int32) (y0 : Int32) : Option (ev_M × Int32) :=
  if y0 = (cI (-1)) then
    some (s, (cI 4))
  else
    bd2 (fM_nearestStreet s x4 x5 x6) fun s1 v2 =>
    if v2 = (cI (-1)) then
      some (s1, (cI 5))
    else
      bd1 (fM_pointWith s1 v2 y0) fun v3 =>
      ltM (wI s1 549 50 v3) fun s4 =>
      if (s4.1 549 50) = (cI (-1)) then
        some (s4, (cI 6))
      else
        some (s4, (cI 0))
def fM_readAddress_h107 : Nat → ev_M → Int32 → Int32 → Int32 → Int32 → Option (ev_M × Int32)
  | 0, _, _, _, _, _ => none
  | n + 1, s, x1, x4, x5, x6 =>
    bd1 (fM_beginsWord s x6 x5) fun v5 =>
    if v5 = 0 then
      (fM_readAddress_h107 n) s x1 x4 x5 (x6 + cI (-1))
    else
      if x6 = x5 then
        fM_readAddress_b143 s x4 x5 x6 (cI (-1))
      else
        bd1 (fM_numberOf s x6 x1 (cI 3)) fun v6 =>
        fM_readAddress_b143 s x4 x5 x6 v6
def fM_readAddress_b59 (s : ev_M) (x1 : Int32) (x2 : Int32) : Option (ev_M × Int32) :=
  bd1 (fM_numberOf s x1 x2 (cI 5)) fun v7 =>
  if v7 = (cI (-1)) then
    some (s, (cI 2))
  else
    bd1 (fM_placeWith s v7) fun v8 =>
    if v8 = (cI (-1)) then
      some (s, (cI 3))
    else
      if inb ((s.1 549 51) - (cI 2)) 11 = true then
      ltI (s.1 577 (ix ((s.1 549 51) - (cI 2)))) fun v9 =>
      ltI (x1 - (cI 1)) fun v10 =>
      fM_readAddress_h107 1048576 s x1 v8 v9 v10
      else none
def fM_readAddress_h31 : Nat → ev_M → Int32 → Int32 → Option (ev_M × Int32)
  | 0, _, _, _ => none
  | n + 1, s, x1, x2 =>
    if inb (s.1 549 51) 11 = true then
    if x2 < (s.1 577 (ix (s.1 549 51))) then
      bd1 (fM_beginsWord s x2 x1) fun v11 =>
      if v11 = 0 then
        (fM_readAddress_h31 n) s x1 (x2 + cI 1)
      else
        fM_readAddress_b59 s x1 x2
    else
      fM_readAddress_b59 s x1 x2
    else none
def fM_readAddress (s : ev_M) : Option (ev_M × Int32) :=
  ltM (wI s 549 50 (cI (-1))) fun s12 =>
  if (s12.1 549 51) < (cI 2) then
    some (s12, (cI 1))
  else
    if inb ((s12.1 549 51) - (cI 1)) 11 = true then
    ltI (s12.1 577 (ix ((s12.1 549 51) - (cI 1)))) fun v13 =>
    ltI (v13 + (cI 1)) fun v14 =>
    fM_readAddress_h31 1048576 s12 v13 v14
    else none
def fM_findDark_b53 (k8 : ev_M → Int32 → Int32 → Int32 → Option ev_M) (s : ev_M) (x1 : Int32) (x3 : Int32) (y0 : Int32) : Option ev_M :=
  k8 s x1 y0 (x3 + cI 1)
def fM_findDark_b40 (k8 : ev_M → Int32 → Int32 → Int32 → Option ev_M) (s : ev_M) (x2 : Int32) (x3 : Int32) (x4 : Int32) (y0 : Int32) : Option ev_M :=
  if x4 ≤ x2 then
    fM_findDark_b53 k8 s y0 x3 x2
  else
    fM_findDark_b53 k8 s y0 x3 x4
def fM_findDark_b126 (k62 : ev_M → Int32 → Int32 → Int32 → Option ev_M) (s : ev_M) (x1 : Int32) (x2 : Int32) (x3 : Int32) (y1 : Int32) (y2 : Int32) : Option ev_M :=
  if inb y1 4096 = true then
  ltM (wI s 650 (ix y1) (y2 &&& 1)) fun s1 =>
  k62 s1 x1 x2 (x3 + cI 1)
  else none
def fM_findDark_b106 (k62 : ev_M → Int32 → Int32 → Int32 → Option ev_M) (s : ev_M) (x1 : Int32) (x2 : Int32) (x3 : Int32) (y1 : Int32) (y2 : Int32) : Option ev_M :=
  if inb y1 4096 = true then
  ltM (wI s 649 (ix y1) (y2 &&& 1)) fun s2 =>
  if inb x3 4096 = true then
  if (s2.1 649 (ix x3)) = 0 then
    fM_findDark_b126 k62 s2 x1 x2 x3 x3 (cI 1)
  else
    fM_findDark_b126 k62 s2 x1 x2 x3 x3 (cI 0)
  else none
  else none
def fM_findDark_b105 (k62 : ev_M → Int32 → Int32 → Int32 → Option ev_M) (s : ev_M) (x1 : Int32) (x2 : Int32) (x3 : Int32) (y1 : Int32) : Option ev_M :=
  fM_findDark_b106 k62 s x1 x2 x3 y1 (cI 0)
def fM_findDark_h62 : Nat → ev_M → Int32 → Int32 → Int32 → Option ev_M
  | 0, _, _, _, _ => none
  | n + 1, s, x1, x2, x3 =>
    if x3 < (s.1 549 13) then
      if (x2 - x1) < (cI 32) then
        fM_findDark_b105 (fM_findDark_h62 n) s x1 x2 x3 x3
      else
        if inb x3 4096 = true then
        if ((cI 2) * ((s.1 554 (ix x3)) &&& (cI 255))) < (x1 + x2) then
          fM_findDark_b106 (fM_findDark_h62 n) s x1 x2 x3 x3 (cI 1)
        else
          fM_findDark_b105 (fM_findDark_h62 n) s x1 x2 x3 x3
        else none
    else
      some s
def fM_findDark_h8 : Nat → ev_M → Int32 → Int32 → Int32 → Option ev_M
  | 0, _, _, _, _ => none
  | n + 1, s, x1, x2, x3 =>
    if x3 < (s.1 549 13) then
      if inb x3 4096 = true then
      ltI ((s.1 554 (ix x3)) &&& (cI 255)) fun v3 =>
      if v3 < x1 then
        fM_findDark_b40 (fM_findDark_h8 n) s x2 x3 v3 v3
      else
        fM_findDark_b40 (fM_findDark_h8 n) s x2 x3 v3 x1
      else none
    else
      fM_findDark_h62 1048576 s x1 x2 (cI 0)
def fM_findDark (s : ev_M) : Option ev_M :=
  fM_findDark_h8 1048576 s (cI 255) (cI 0) (cI 0)
def fM_doSheet_b28 (s : ev_M) : Option (ev_M × Int32) :=
  bd2 (fM_no s (cI (-102))) fun s1 v2 =>
  some (s1, v2)
def fM_doSheet_b97 (k75 : ev_M → Int32 → Option (ev_M × Int32)) (s : ev_M) (x2 : Int32) : Option (ev_M × Int32) :=
  k75 s (x2 + cI 1)
def fM_doSheet_h75 : Nat → ev_M → Int32 → Option (ev_M × Int32)
  | 0, _, _ => none
  | n + 1, s, x2 =>
    if x2 < (s.1 549 13) then
      if inb x2 4096 = true then
      if (s.1 650 (ix x2)) = 0 then
        bd1 (fM_part s x2) fun s3 =>
        fM_doSheet_b97 (fM_doSheet_h75 n) s3 x2
      else
        fM_doSheet_b97 (fM_doSheet_h75 n) s x2
      else none
    else
      bd1 (fM_hangTogether s) fun s4 =>
      bd1 (fM_findLines s4) fun s5 =>
      ltM (wI s5 549 48 (cI 1)) fun s6 =>
      bd2 (fM_readAddress s6) fun s7 v8 =>
      ltM (wI s7 549 49 v8) fun s9 =>
      some (s9, (s9.1 549 49))
def fM_doSheet (s : ev_M) (a1 : Int32) : Option (ev_M × Int32) :=
  bd1 (fM_in s a1 (cI 8) (cI 128)) fun v10 =>
  if v10 = 0 then
    fM_doSheet_b28 s
  else
    if (s.1 549 13) = 0 then
      fM_doSheet_b28 s
    else
      if a1 = 0 then none else
      if (irem (s.1 549 13) a1) = 0 then
        bd1 (fM_full s) fun v11 =>
        if v11 = 0 then
          ltM (wI s 549 152 a1) fun s12 =>
          if a1 = 0 then none else
          ltM (wI s12 549 153 ((s12.1 549 13) / a1)) fun s13 =>
          ltM (wI s13 549 146 (cI 0)) fun s14 =>
          bd1 (fM_findDark s14) fun s15 =>
          fM_doSheet_h75 1048576 s15 (cI 0)
        else
          bd2 (fM_no s (cI (-104))) fun s16 v17 =>
          some (s16, v17)
      else
        fM_doSheet_b28 s
def fM_leaves (s : ev_M) (a1 : Int32) : Option ev_M :=
  if inb a1 300 = true then
  ltM (wI s 593 (ix a1) (cI (-1))) fun s1 =>
  if inb a1 300 = true then
  ltM (wI s1 595 (ix a1) (cI (-1))) fun s2 =>
  if inb a1 300 = true then
  ltM (wI s2 597 (ix a1) (cI (-1))) fun s3 =>
  if inb a1 300 = true then
  ltM (wI s3 598 (ix a1) (cI (-1))) fun s4 =>
  if inb a1 300 = true then
  ltM (wI s4 602 (ix a1) (cI (-1))) fun s5 =>
  some s5
  else none
  else none
  else none
  else none
  else none
def fM_event_b51 (s : ev_M) : Option ev_M :=
  ltM (wI s 549 129 ((s.1 549 129) + (cI 1))) fun s1 =>
  some s1
def fM_event (s : ev_M) (a1 : Int32) (a2 : Int32) (a3 : Int32) (a4 : Int32) : Option ev_M :=
  if (s.1 549 129) < (cI 5000) then
    if inb (s.1 549 129) 5000 = true then
    ltM (wI s 640 (ix (s.1 549 129)) a1) fun s2 =>
    if inb (s2.1 549 129) 5000 = true then
    ltM (wI s2 641 (ix (s2.1 549 129)) a2) fun s3 =>
    if inb (s3.1 549 129) 5000 = true then
    ltM (wI s3 642 (ix (s3.1 549 129)) a3) fun s4 =>
    if inb (s4.1 549 129) 5000 = true then
    ltM (wI s4 643 (ix (s4.1 549 129)) a4) fun s5 =>
    fM_event_b51 s5
    else none
    else none
    else none
    else none
  else
    fM_event_b51 s
def fM_comes_b87 (s : ev_M) : Option ev_M :=
  ltM (wI s 549 134 ((s.1 549 134) + (cI 1))) fun s1 =>
  some s1
def fM_comes (s : ev_M) (a1 : Int32) (a2 : Int32) : Option ev_M :=
  if inb a1 300 = true then
  ltM (wI s 583 (ix a1) a2) fun s2 =>
  if inb a1 300 = true then
  bd1 (fM_event s2 a1 a2 (s2.1 591 (ix a1)) (s2.1 549 22)) fun s3 =>
  if inb a1 300 = true then
  if inb ((s3.1 587 (ix a1)) - (cI 4)) 30 = true then
  if (((s3.1 627 (ix ((s3.1 587 (ix a1)) - (cI 4)))) >>> (a2 &&& 31)) &&& (cI 1)) = (cI 1) then
    if (s3.1 549 134) < (cI 3000) then
      if inb (s3.1 549 134) 3000 = true then
      ltM (wI s3 644 (ix (s3.1 549 134)) a1) fun s4 =>
      if inb (s4.1 549 134) 3000 = true then
      ltM (wI s4 645 (ix (s4.1 549 134)) a2) fun s5 =>
      if inb (s5.1 549 134) 3000 = true then
      ltM (wI s5 646 (ix (s5.1 549 134)) (s5.1 549 22)) fun s6 =>
      fM_comes_b87 s6
      else none
      else none
      else none
    else
      fM_comes_b87 s3
  else
    some s3
  else none
  else none
  else none
  else none
def fM_doItem_b93 (s : ev_M) : Option (ev_M × Int32) :=
  bd2 (fM_no s (cI (-102))) fun s1 v2 =>
  some (s1, v2)
def fM_doItem_b117 (s : ev_M) : Option (ev_M × Int32) :=
  bd2 (fM_no s (cI (-104))) fun s3 v4 =>
  some (s3, v4)
def fM_doItem_b45 (s : ev_M) (x1 : Int32) (x2 : Int32) (x3 : Int32) (x4 : Int32) (x5 : Int32) (x6 : Int32) (y0 : Int32) : Option (ev_M × Int32) :=
  bd1 (fM_in s x1 (cI 0) (cI 3)) fun v5 =>
  if v5 = 0 then
    fM_doItem_b93 s
  else
    bd1 (fM_in s x2 (cI 1) (cI 30000)) fun v6 =>
    if v6 = 0 then
      fM_doItem_b93 s
    else
      bd1 (fM_in s x3 (cI 0) (cI 7)) fun v7 =>
      if v7 = 0 then
        fM_doItem_b93 s
      else
        bd1 (fM_in s x5 (cI 1) (cI 99)) fun v8 =>
        if v8 = 0 then
          fM_doItem_b93 s
        else
          if y0 = 0 then
            fM_doItem_b93 s
          else
            if (s.1 549 58) = (cI 300) then
              fM_doItem_b117 s
            else
              bd1 (fM_full s) fun v9 =>
              if v9 = 0 then
                ltI (s.1 549 58) fun v10 =>
                ltM (wI s 549 58 ((s.1 549 58) + (cI 1))) fun s11 =>
                if inb v10 300 = true then
                ltM (wI s11 584 (ix v10) x1) fun s12 =>
                if inb v10 300 = true then
                ltM (wI s12 585 (ix v10) x2) fun s13 =>
                if inb v10 300 = true then
                ltM (wI s13 586 (ix v10) x3) fun s14 =>
                if inb v10 300 = true then
                ltM (wI s14 587 (ix v10) x4) fun s15 =>
                if inb v10 300 = true then
                ltM (wI s15 588 (ix v10) x5) fun s16 =>
                if inb v10 300 = true then
                ltM (wI s16 589 (ix v10) x6) fun s17 =>
                if inb v10 300 = true then
                ltM (wI s17 590 (ix v10) (cI (-1))) fun s18 =>
                if inb v10 300 = true then
                ltM (wI s18 591 (ix v10) (cI (-1))) fun s19 =>
                if inb v10 300 = true then
                ltM (wI s19 592 (ix v10) (cI 0)) fun s20 =>
                if inb v10 300 = true then
                ltM (wI s20 599 (ix v10) ((cI 0) &&& 1)) fun s21 =>
                if inb v10 300 = true then
                ltM (wI s21 600 (ix v10) (cI (-1))) fun s22 =>
                if inb v10 300 = true then
                ltM (wI s22 601 (ix v10) (cI 0)) fun s23 =>
                if inb v10 300 = true then
                ltM (wI s23 603 (ix v10) ((cI 0) &&& 1)) fun s24 =>
                if inb v10 300 = true then
                ltM (wI s24 604 (ix v10) (cI 0)) fun s25 =>
                bd1 (fM_leaves s25 v10) fun s26 =>
                bd1 (fM_comes s26 v10 (cI 0)) fun s27 =>
                some (s27, v10)
                else none
                else none
                else none
                else none
                else none
                else none
                else none
                else none
                else none
                else none
                else none
                else none
                else none
                else none
              else
                fM_doItem_b117 s
def fM_doItem (s : ev_M) (a1 : Int32) (a2 : Int32) (a3 : Int32) (a4 : Int32) (a5 : Int32) (a6 : Int32) : Option (ev_M × Int32) :=
  bd1 (fM_isCustomer s a4) fun v28 =>
  if v28 = 0 then
    bd2 (fM_no s (cI (-101))) fun s29 v30 =>
    some (s29, v30)
  else
    if (a3 &&& (cI 2)) = (cI 2) then
      bd1 (fM_in s a6 (cI 1) (cI 100000)) fun v31 =>
      fM_doItem_b45 s a1 a2 a3 a4 a5 a6 v31
    else
      if a6 = 0 then
        fM_doItem_b45 s a1 a2 a3 a4 a5 a6 (cI 1)
      else
        fM_doItem_b45 s a1 a2 a3 a4 a5 a6 (cI 0)
def fM_isItem (s : ev_M) (a1 : Int32) : Option Int32 :=
  bd1 (fM_in s a1 (cI 0) ((s.1 549 58) - (cI 1))) fun v1 =>
  if bz v1 = true then some v1 else none
def fM_isEarly_b19 (s : ev_M) : Option Int32 :=
  some (cI 1)
def fM_isEarly (s : ev_M) (a1 : Int32) : Option Int32 :=
  if inb a1 300 = true then
  if (s.1 583 (ix a1)) = 0 then
    fM_isEarly_b19 s
  else
    if inb a1 300 = true then
    if (s.1 583 (ix a1)) = (cI 1) then
      fM_isEarly_b19 s
    else
      some (cI 0)
    else none
  else none
def fM_settle (s : ev_M) (a1 : Int32) (a2 : Int32) : Option ev_M :=
  if inb a1 300 = true then
  ltM (wI s 590 (ix a1) a2) fun s1 =>
  if inb a1 300 = true then
  ltM (wI s1 601 (ix a1) (cI 0)) fun s2 =>
  some s2
  else none
  else none
def fM_doAddress_b16 (s : ev_M) : Option (ev_M × Int32) :=
  bd2 (fM_no s (cI (-101))) fun s1 v2 =>
  some (s1, v2)
def fM_doAddress_b41 (s : ev_M) : Option (ev_M × Int32) :=
  bd2 (fM_no s (cI (-103))) fun s3 v4 =>
  some (s3, v4)
def fM_doAddress (s : ev_M) (a1 : Int32) (a2 : Int32) : Option (ev_M × Int32) :=
  bd1 (fM_isItem s a1) fun v5 =>
  if v5 = 0 then
    fM_doAddress_b16 s
  else
    bd1 (fM_isPoint s a2) fun v6 =>
    if v6 = 0 then
      fM_doAddress_b16 s
    else
      if inb a1 300 = true then
      if (s.1 590 (ix a1)) = (cI (-1)) then
        bd1 (fM_isEarly s a1) fun v7 =>
        if v7 = 0 then
          fM_doAddress_b41 s
        else
          bd1 (fM_full s) fun v8 =>
          if v8 = 0 then
            bd1 (fM_settle s a1 a2) fun s9 =>
            some (s9, (cI 1))
          else
            bd2 (fM_no s (cI (-104))) fun s10 v11 =>
            some (s10, v11)
      else
        fM_doAddress_b41 s
      else none
def fM_doTake_b49 (s : ev_M) : Option (ev_M × Int32) :=
  bd2 (fM_no s (cI (-103))) fun s1 v2 =>
  some (s1, v2)
def fM_doTake (s : ev_M) (a1 : Int32) : Option (ev_M × Int32) :=
  bd1 (fM_isItem s a1) fun v3 =>
  if v3 = 0 then
    bd2 (fM_no s (cI (-101))) fun s4 v5 =>
    some (s4, v5)
  else
    if (s.1 549 48) = 0 then
      fM_doTake_b49 s
    else
      if inb a1 300 = true then
      if (s.1 590 (ix a1)) = (cI (-1)) then
        if inb a1 300 = true then
        if (s.1 601 (ix a1)) ≤ 0 then
          bd1 (fM_isEarly s a1) fun v6 =>
          if v6 = 0 then
            fM_doTake_b49 s
          else
            bd1 (fM_full s) fun v7 =>
            if v7 = 0 then
              if (s.1 549 50) = (cI (-1)) then
                if inb a1 300 = true then
                ltM (wI s 601 (ix a1) (cI 1)) fun s8 =>
                some (s8, (cI 0))
                else none
              else
                bd1 (fM_settle s a1 (s.1 549 50)) fun s9 =>
                some (s9, (cI 1))
            else
              bd2 (fM_no s (cI (-104))) fun s10 v11 =>
              some (s10, v11)
        else
          fM_doTake_b49 s
        else none
      else
        fM_doTake_b49 s
      else none
def fM_doClerk_b21 (s : ev_M) : Option (ev_M × Int32) :=
  bd2 (fM_no s (cI (-101))) fun s1 v2 =>
  some (s1, v2)
def fM_doClerk_b115 (k56 : ev_M → Int32 → Int32 → Int32 → Int32 → Int32 → Int32 → Option (ev_M × Int32)) (s : ev_M) (x1 : Int32) (x2 : Int32) (x3 : Int32) (x4 : Int32) (x6 : Int32) (y0 : Int32) : Option (ev_M × Int32) :=
  k56 s x1 x2 x3 x4 y0 (x6 + cI 1)
def fM_doClerk_b110 (k56 : ev_M → Int32 → Int32 → Int32 → Int32 → Int32 → Int32 → Option (ev_M × Int32)) (s : ev_M) (x1 : Int32) (x2 : Int32) (x3 : Int32) (x4 : Int32) (x6 : Int32) : Option (ev_M × Int32) :=
  fM_doClerk_b115 k56 s x1 x2 x3 x4 x6 (cI 1)
def fM_doClerk_b92 (k56 : ev_M → Int32 → Int32 → Int32 → Int32 → Int32 → Int32 → Option (ev_M × Int32)) (s : ev_M) (x1 : Int32) (x2 : Int32) (x3 : Int32) (x5 : Int32) (x6 : Int32) (y0 : Int32) : Option (ev_M × Int32) :=
  if x5 = 0 then
    if inb x6 900 = true then
    if (s.1 606 (ix x6)) = x3 then
      fM_doClerk_b110 k56 s x1 x2 x3 y0 x6
    else
      fM_doClerk_b115 k56 s x1 x2 x3 y0 x6 (cI 0)
    else none
  else
    fM_doClerk_b110 k56 s x1 x2 x3 y0 x6
def fM_doClerk_b87 (k56 : ev_M → Int32 → Int32 → Int32 → Int32 → Int32 → Int32 → Option (ev_M × Int32)) (s : ev_M) (x1 : Int32) (x2 : Int32) (x3 : Int32) (x5 : Int32) (x6 : Int32) : Option (ev_M × Int32) :=
  fM_doClerk_b92 k56 s x1 x2 x3 x5 x6 (cI 1)
def fM_doClerk_b138 (s : ev_M) : Option (ev_M × Int32) :=
  bd2 (fM_no s (cI (-103))) fun s3 v4 =>
  some (s3, v4)
def fM_doClerk_b234 (s : ev_M) (x1 : Int32) : Option (ev_M × Int32) :=
  if inb x1 300 = true then
  ltM (wI s 601 (ix x1) (cI 2)) fun s5 =>
  some (s5, (cI 2))
  else none
def fM_doClerk_b219 (s : ev_M) (x1 : Int32) (x5 : Int32) : Option (ev_M × Int32) :=
  if x5 = 0 then
    if inb x1 300 = true then
    if (s.1 604 (ix x1)) = (cI 3) then
      fM_doClerk_b234 s x1
    else
      some (s, (cI 0))
    else none
  else
    fM_doClerk_b234 s x1
def fM_doClerk_h56 : Nat → ev_M → Int32 → Int32 → Int32 → Int32 → Int32 → Int32 → Option (ev_M × Int32)
  | 0, _, _, _, _, _, _, _ => none
  | n + 1, s, x1, x2, x3, x4, x5, x6 =>
    if inb x1 300 = true then
    if x6 < (((cI 3) * x1) + (s.1 604 (ix x1))) then
      if x4 = 0 then
        if inb x6 900 = true then
        if (s.1 605 (ix x6)) = x2 then
          fM_doClerk_b87 (fM_doClerk_h56 n) s x1 x2 x3 x5 x6
        else
          fM_doClerk_b92 (fM_doClerk_h56 n) s x1 x2 x3 x5 x6 (cI 0)
        else none
      else
        fM_doClerk_b87 (fM_doClerk_h56 n) s x1 x2 x3 x5 x6
    else
      if inb x1 300 = true then
      if (s.1 601 (ix x1)) = (cI 1) then
        if x4 = 0 then
          bd1 (fM_full s) fun v6 =>
          if v6 = 0 then
            if inb x1 300 = true then
            if inb (((cI 3) * x1) + (s.1 604 (ix x1))) 900 = true then
            ltM (wI s 605 (ix (((cI 3) * x1) + (s.1 604 (ix x1)))) x2) fun s7 =>
            if inb x1 300 = true then
            if inb (((cI 3) * x1) + (s7.1 604 (ix x1))) 900 = true then
            ltM (wI s7 606 (ix (((cI 3) * x1) + (s7.1 604 (ix x1)))) x3) fun s8 =>
            if inb x1 300 = true then
            if inb x1 300 = true then
            ltM (wI s8 604 (ix x1) ((s8.1 604 (ix x1)) + (cI 1))) fun s9 =>
            if x5 = 0 then
              fM_doClerk_b219 s9 x1 x5
            else
              if x3 = (cI (-1)) then
                fM_doClerk_b219 s9 x1 x5
              else
                bd1 (fM_settle s9 x1 x3) fun s10 =>
                some (s10, (cI 1))
            else none
            else none
            else none
            else none
            else none
            else none
          else
            bd2 (fM_no s (cI (-104))) fun s11 v12 =>
            some (s11, v12)
        else
          fM_doClerk_b138 s
      else
        fM_doClerk_b138 s
      else none
    else none
def fM_doClerk_b28 (s : ev_M) (x1 : Int32) (x2 : Int32) (x3 : Int32) : Option (ev_M × Int32) :=
  bd1 (fM_in s x2 (cI 0) (cI 9)) fun v13 =>
  if v13 = 0 then
    bd2 (fM_no s (cI (-102))) fun s14 v15 =>
    some (s14, v15)
  else
    ltI ((cI 3) * x1) fun v16 =>
    fM_doClerk_h56 1048576 s x1 x2 x3 (cI 0) (cI 0) v16
def fM_doClerk (s : ev_M) (a1 : Int32) (a2 : Int32) (a3 : Int32) : Option (ev_M × Int32) :=
  bd1 (fM_isItem s a1) fun v17 =>
  if v17 = 0 then
    fM_doClerk_b21 s
  else
    if a3 = (cI (-1)) then
      fM_doClerk_b28 s a1 a2 a3
    else
      bd1 (fM_isPoint s a3) fun v18 =>
      if v18 = 0 then
        fM_doClerk_b21 s
      else
        fM_doClerk_b28 s a1 a2 a3
def fM_isPlace (s : ev_M) (a1 : Int32) : Option Int32 :=
  bd1 (fM_in s a1 (cI 0) ((s.1 549 24) - (cI 1))) fun v1 =>
  if bz v1 = true then some v1 else none
def fM_comesIn (s : ev_M) (a1 : Int32) (a2 : Int32) : Option ev_M :=
  bd1 (fM_leaves s a1) fun s1 =>
  if inb a1 300 = true then
  ltM (wI s1 591 (ix a1) a2) fun s2 =>
  ltM (wI s2 549 23 ((s2.1 549 23) + (cI 1))) fun s3 =>
  if inb a1 300 = true then
  ltM (wI s3 592 (ix a1) (s3.1 549 23)) fun s4 =>
  bd1 (fM_comes s4 a1 (cI 1)) fun s5 =>
  some s5
  else none
  else none
def fM_doPost_b16 (s : ev_M) : Option (ev_M × Int32) :=
  bd2 (fM_no s (cI (-101))) fun s1 v2 =>
  some (s1, v2)
def fM_doPost (s : ev_M) (a1 : Int32) (a2 : Int32) : Option (ev_M × Int32) :=
  bd1 (fM_isItem s a1) fun v3 =>
  if v3 = 0 then
    fM_doPost_b16 s
  else
    bd1 (fM_isPlace s a2) fun v4 =>
    if v4 = 0 then
      fM_doPost_b16 s
    else
      if inb a1 300 = true then
      if (s.1 583 (ix a1)) = 0 then
        bd1 (fM_full s) fun v5 =>
        if v5 = 0 then
          bd1 (fM_comesIn s a1 a2) fun s6 =>
          some (s6, (cI 1))
        else
          bd2 (fM_no s (cI (-104))) fun s7 v8 =>
          some (s7, v8)
      else
        bd2 (fM_no s (cI (-103))) fun s9 v10 =>
        some (s9, v10)
      else none
def fM_doMachine_b44 (s : ev_M) : Option (ev_M × Int32) :=
  bd2 (fM_no s (cI (-102))) fun s1 v2 =>
  some (s1, v2)
def fM_doMachine (s : ev_M) (a1 : Int32) (a2 : Int32) (a3 : Int32) (a4 : Int32) : Option (ev_M × Int32) :=
  bd1 (fM_in s a1 (cI 2) (cI 16)) fun v3 =>
  if v3 = 0 then
    fM_doMachine_b44 s
  else
    bd1 (fM_in s a2 (cI 1) (cI 2000)) fun v4 =>
    if v4 = 0 then
      fM_doMachine_b44 s
    else
      bd1 (fM_in s a3 (cI 1) (cI 500)) fun v5 =>
      if v5 = 0 then
        fM_doMachine_b44 s
      else
        bd1 (fM_in s a4 (cI 0) (cI 4000)) fun v6 =>
        if v6 = 0 then
          fM_doMachine_b44 s
        else
          bd1 (fM_full s) fun v7 =>
          if v7 = 0 then
            ltM (wI s 549 83 a1) fun s8 =>
            ltM (wI s8 549 84 a2) fun s9 =>
            ltM (wI s9 549 85 a3) fun s10 =>
            ltM (wI s10 549 86 a4) fun s11 =>
            some (s11, (cI 1))
          else
            bd2 (fM_no s (cI (-104))) fun s12 v13 =>
            some (s12, v13)
def fM_doRound_b41 (s : ev_M) : Option (ev_M × Int32) :=
  bd2 (fM_no s (cI (-102))) fun s1 v2 =>
  some (s1, v2)
def fM_doRound_b64 (s : ev_M) : Option (ev_M × Int32) :=
  bd2 (fM_no s (cI (-104))) fun s3 v4 =>
  some (s3, v4)
def fM_doRound (s : ev_M) (a1 : Int32) (a2 : Int32) (a3 : Int32) : Option (ev_M × Int32) :=
  bd1 (fM_isPlace s a1) fun v5 =>
  if v5 = 0 then
    bd2 (fM_no s (cI (-101))) fun s6 v7 =>
    some (s6, v7)
  else
    bd1 (fM_in s a2 (cI (-2000)) (cI 2000)) fun v8 =>
    if v8 = 0 then
      fM_doRound_b41 s
    else
      bd1 (fM_in s a3 (cI (-2000)) (cI 2000)) fun v9 =>
      if v9 = 0 then
        fM_doRound_b41 s
      else
        if (s.1 549 87) = (cI 12) then
          fM_doRound_b64 s
        else
          bd1 (fM_full s) fun v10 =>
          if v10 = 0 then
            if inb (s.1 549 87) 12 = true then
            ltM (wI s 607 (ix (s.1 549 87)) a1) fun s11 =>
            if inb (s11.1 549 87) 12 = true then
            ltM (wI s11 608 (ix (s11.1 549 87)) a2) fun s12 =>
            if inb (s12.1 549 87) 12 = true then
            ltM (wI s12 609 (ix (s12.1 549 87)) a3) fun s13 =>
            ltM (wI s13 549 87 ((s13.1 549 87) + (cI 1))) fun s14 =>
            some (s14, ((s14.1 549 87) - (cI 1)))
            else none
            else none
            else none
          else
            fM_doRound_b64 s
def fM_isRound (s : ev_M) (a1 : Int32) : Option Int32 :=
  bd1 (fM_in s a1 (cI 0) ((s.1 549 87) - (cI 1))) fun v1 =>
  if bz v1 = true then some v1 else none
def fM_placeOf (s : ev_M) (a1 : Int32) : Option Int32 :=
  if inb a1 120 = true then
  if inb (s.1 569 (ix a1)) 30 = true then
  some (s.1 560 (ix (s.1 569 (ix a1))))
  else none
  else none
def fM_pointsOf_b29 (s : ev_M) (k4 : Int32 → Int32 → Int32 → Option Int32) (x1 : Int32) (x3 : Int32) (y0 : Int32) : Option Int32 :=
  k4 x1 y0 (x3 + cI 1)
def fM_pointsOf_h4 (s : ev_M) : Nat → Int32 → Int32 → Int32 → Option Int32
  | 0, _, _, _ => none
  | n + 1, x1, x2, x3 =>
    if x3 < (s.1 549 38) then
      if inb x3 120 = true then
      if (s.1 571 (ix x3)) = x1 then
        fM_pointsOf_b29 s (fM_pointsOf_h4 s n) x1 x3 (x2 + (cI 1))
      else
        fM_pointsOf_b29 s (fM_pointsOf_h4 s n) x1 x3 x2
      else none
    else
      some x2
def fM_pointsOf (s : ev_M) (a1 : Int32) : Option Int32 :=
  fM_pointsOf_h4 s 1048576 a1 (cI 0) (cI 0)
def fM_doAssign_b16 (s : ev_M) : Option (ev_M × Int32) :=
  bd2 (fM_no s (cI (-101))) fun s1 v2 =>
  some (s1, v2)
def fM_doAssign_b47 (s : ev_M) : Option (ev_M × Int32) :=
  bd2 (fM_no s (cI (-103))) fun s3 v4 =>
  some (s3, v4)
def fM_doAssign_b73 (s : ev_M) : Option (ev_M × Int32) :=
  bd2 (fM_no s (cI (-104))) fun s5 v6 =>
  some (s5, v6)
def fM_doAssign (s : ev_M) (a1 : Int32) (a2 : Int32) : Option (ev_M × Int32) :=
  bd1 (fM_isPoint s a1) fun v7 =>
  if v7 = 0 then
    fM_doAssign_b16 s
  else
    bd1 (fM_isRound s a2) fun v8 =>
    if v8 = 0 then
      fM_doAssign_b16 s
    else
      bd1 (fM_placeOf s a1) fun v9 =>
      if inb a2 12 = true then
      if v9 = (s.1 607 (ix a2)) then
        if inb a1 120 = true then
        if (s.1 571 (ix a1)) = (cI (-1)) then
          bd1 (fM_pointsOf s a2) fun v10 =>
          if v10 = (cI 20) then
            fM_doAssign_b73 s
          else
            bd1 (fM_full s) fun v11 =>
            if v11 = 0 then
              if inb a1 120 = true then
              ltM (wI s 571 (ix a1) a2) fun s12 =>
              if inb a1 120 = true then
              ltM (wI s12 572 (ix a1) v10) fun s13 =>
              some (s13, (v10 + (cI 1)))
              else none
              else none
            else
              fM_doAssign_b73 s
        else
          fM_doAssign_b47 s
        else none
      else
        fM_doAssign_b47 s
      else none
def fM_xOf_b49 (s : ev_M) (y0 : Int32) (y1 : Int32) : Option Int32 :=
  some (y0 + y1)
def fM_xOf (s : ev_M) (a1 : Int32) : Option Int32 :=
  if inb a1 120 = true then
  ltI (s.1 569 (ix a1)) fun v1 =>
  if inb v1 30 = true then
  ltI (s.1 564 (ix v1)) fun v2 =>
  if inb v1 30 = true then
  if v2 = 0 then
    if inb a1 120 = true then
    fM_xOf_b49 s (s.1 562 (ix v1)) (s.1 570 (ix a1))
    else none
  else
    if v2 = (cI 2) then
      if inb a1 120 = true then
      fM_xOf_b49 s (s.1 562 (ix v1)) (-(s.1 570 (ix a1)))
      else none
    else
      fM_xOf_b49 s (s.1 562 (ix v1)) (cI 0)
  else none
  else none
  else none
def fM_yOf_b50 (s : ev_M) (y0 : Int32) (y1 : Int32) : Option Int32 :=
  some (y0 + y1)
def fM_yOf (s : ev_M) (a1 : Int32) : Option Int32 :=
  if inb a1 120 = true then
  ltI (s.1 569 (ix a1)) fun v1 =>
  if inb v1 30 = true then
  ltI (s.1 564 (ix v1)) fun v2 =>
  if inb v1 30 = true then
  if v2 = (cI 1) then
    if inb a1 120 = true then
    fM_yOf_b50 s (s.1 563 (ix v1)) (s.1 570 (ix a1))
    else none
  else
    if v2 = (cI 3) then
      if inb a1 120 = true then
      fM_yOf_b50 s (s.1 563 (ix v1)) (-(s.1 570 (ix a1)))
      else none
    else
      fM_yOf_b50 s (s.1 563 (ix v1)) (cI 0)
  else none
  else none
  else none
def fM_size (s : ev_M) (a0 : Int32) : Option Int32 :=
  if a0 < 0 then
    some (-a0)
  else
    some a0
def fM_far (s : ev_M) (a1 : Int32) (a2 : Int32) : Option Int32 :=
  if inb a1 21 = true then
  if inb a2 21 = true then
  bd1 (fM_size s ((s.1 665 (ix a1)) - (s.1 665 (ix a2)))) fun v1 =>
  if inb a1 21 = true then
  if inb a2 21 = true then
  bd1 (fM_size s ((s.1 666 (ix a1)) - (s.1 666 (ix a2)))) fun v2 =>
  some (v1 + v2)
  else none
  else none
  else none
  else none
def fM_arrangeExactly_b106 (k8 : ev_M → Int32 → Int32 → Int32 → Option (ev_M × Int32)) (k15 : ev_M → Int32 → Int32 → Int32 → Int32 → Option (ev_M × Int32)) (k44 : ev_M → Int32 → Int32 → Int32 → Int32 → Int32 → Int32 → Option (ev_M × Int32)) (s : ev_M) (x1 : Int32) (x2 : Int32) (x3 : Int32) (x4 : Int32) (x6 : Int32) (y0 : Int32) : Option (ev_M × Int32) :=
  k44 s x1 x2 x3 x4 y0 (x6 + cI 1)
def fM_arrangeExactly_b90 (k8 : ev_M → Int32 → Int32 → Int32 → Option (ev_M × Int32)) (k15 : ev_M → Int32 → Int32 → Int32 → Int32 → Option (ev_M × Int32)) (k44 : ev_M → Int32 → Int32 → Int32 → Int32 → Int32 → Int32 → Option (ev_M × Int32)) (s : ev_M) (x1 : Int32) (x2 : Int32) (x3 : Int32) (x4 : Int32) (x5 : Int32) (x6 : Int32) (y0 : Int32) : Option (ev_M × Int32) :=
  if y0 < x5 then
    fM_arrangeExactly_b106 k8 k15 k44 s x1 x2 x3 x4 x6 y0
  else
    fM_arrangeExactly_b106 k8 k15 k44 s x1 x2 x3 x4 x6 x5
def fM_arrangeExactly_h44 (k8 : ev_M → Int32 → Int32 → Int32 → Option (ev_M × Int32)) (k15 : ev_M → Int32 → Int32 → Int32 → Int32 → Option (ev_M × Int32)) : Nat → ev_M → Int32 → Int32 → Int32 → Int32 → Int32 → Int32 → Option (ev_M × Int32)
  | 0, _, _, _, _, _, _, _ => none
  | n + 1, s, x1, x2, x3, x4, x5, x6 =>
    if x6 < x1 then
      if ((x3 >>> (x6 &&& 31)) &&& (cI 1)) = 0 then
        bd1 (fM_far s x4 x6) fun v1 =>
        if inb (((cI 8) * (x3 ||| ((cI 1) <<< (x6 &&& 31)))) + x6) 2048 = true then
        fM_arrangeExactly_b90 k8 k15 (fM_arrangeExactly_h44 k8 k15 n) s x1 x2 x3 x4 x5 x6 (v1 + (s.1 667 (ix (((cI 8) * (x3 ||| ((cI 1) <<< (x6 &&& 31)))) + x6))))
        else none
      else
        fM_arrangeExactly_b90 k8 k15 (fM_arrangeExactly_h44 k8 k15 n) s x1 x2 x3 x4 x5 x6 x5
    else
      if inb (((cI 8) * x3) + x4) 2048 = true then
      ltM (wI s 667 (ix (((cI 8) * x3) + x4)) x5) fun s2 =>
      k15 s2 x1 x2 x3 (x4 + cI 1)
      else none
def fM_arrangeExactly_b39 (k8 : ev_M → Int32 → Int32 → Int32 → Option (ev_M × Int32)) (k15 : ev_M → Int32 → Int32 → Int32 → Int32 → Option (ev_M × Int32)) (s : ev_M) (x1 : Int32) (x2 : Int32) (x3 : Int32) (x4 : Int32) (y0 : Int32) : Option (ev_M × Int32) :=
  fM_arrangeExactly_h44 k8 k15 1048576 s x1 x2 x3 x4 y0 (cI 0)
def fM_arrangeExactly_h15 (k8 : ev_M → Int32 → Int32 → Int32 → Option (ev_M × Int32)) : Nat → ev_M → Int32 → Int32 → Int32 → Int32 → Option (ev_M × Int32)
  | 0, _, _, _, _, _ => none
  | n + 1, s, x1, x2, x3, x4 =>
    if x4 < x1 then
      if x3 = x2 then
        bd1 (fM_far s x4 x1) fun v3 =>
        fM_arrangeExactly_b39 k8 (fM_arrangeExactly_h15 k8 n) s x1 x2 x3 x4 v3
      else
        fM_arrangeExactly_b39 k8 (fM_arrangeExactly_h15 k8 n) s x1 x2 x3 x4 (cI 100000000)
    else
      k8 s x1 x2 (x3 + cI (-1))
def fM_arrangeExactly_b190 (k147 : ev_M → Int32 → Int32 → Int32 → Option (ev_M × Int32)) (s : ev_M) (x1 : Int32) (x4 : Int32) (y0 : Int32) : Option (ev_M × Int32) :=
  k147 s x1 y0 (x4 + cI 1)
def fM_arrangeExactly_b289 (k209 : ev_M → Int32 → Int32 → Int32 → Int32 → Int32 → Int32 → Option (ev_M × Int32)) (k223 : ev_M → Int32 → Int32 → Int32 → Int32 → Int32 → Int32 → Int32 → Int32 → Option (ev_M × Int32)) (s : ev_M) (x1 : Int32) (x3 : Int32) (x4 : Int32) (x5 : Int32) (x6 : Int32) (x7 : Int32) (x9 : Int32) (y0 : Int32) : Option (ev_M × Int32) :=
  k223 s x1 x3 x4 x5 x6 x7 y0 (x9 + cI (-1))
def fM_arrangeExactly_b287 (k209 : ev_M → Int32 → Int32 → Int32 → Int32 → Int32 → Int32 → Option (ev_M × Int32)) (k223 : ev_M → Int32 → Int32 → Int32 → Int32 → Int32 → Int32 → Int32 → Int32 → Option (ev_M × Int32)) (s : ev_M) (x1 : Int32) (x3 : Int32) (x4 : Int32) (x5 : Int32) (x6 : Int32) (x7 : Int32) (x8 : Int32) (x9 : Int32) : Option (ev_M × Int32) :=
  fM_arrangeExactly_b289 k209 k223 s x1 x3 x4 x5 x6 x7 x9 x8
def fM_arrangeExactly_b243 (k209 : ev_M → Int32 → Int32 → Int32 → Int32 → Int32 → Int32 → Option (ev_M × Int32)) (k223 : ev_M → Int32 → Int32 → Int32 → Int32 → Int32 → Int32 → Int32 → Int32 → Option (ev_M × Int32)) (s : ev_M) (x1 : Int32) (x3 : Int32) (x4 : Int32) (x5 : Int32) (x6 : Int32) (x7 : Int32) (x8 : Int32) (x9 : Int32) (y0 : Int32) : Option (ev_M × Int32) :=
  if y0 = 0 then
    fM_arrangeExactly_b287 k209 k223 s x1 x3 x4 x5 x6 x7 x8 x9
  else
    bd1 (fM_far s x5 x9) fun v4 =>
    if inb (((cI 8) * (x4 ||| ((cI 1) <<< (x9 &&& 31)))) + x9) 2048 = true then
    if (v4 + (s.1 667 (ix (((cI 8) * (x4 ||| ((cI 1) <<< (x9 &&& 31)))) + x9)))) = x6 then
      fM_arrangeExactly_b289 k209 k223 s x1 x3 x4 x5 x6 x7 x9 x9
    else
      fM_arrangeExactly_b287 k209 k223 s x1 x3 x4 x5 x6 x7 x8 x9
    else none
def fM_arrangeExactly_h223 (k209 : ev_M → Int32 → Int32 → Int32 → Int32 → Int32 → Int32 → Option (ev_M × Int32)) : Nat → ev_M → Int32 → Int32 → Int32 → Int32 → Int32 → Int32 → Int32 → Int32 → Option (ev_M × Int32)
  | 0, _, _, _, _, _, _, _, _, _ => none
  | n + 1, s, x1, x3, x4, x5, x6, x7, x8, x9 =>
    if x9 < 0 then
      bd1 (fM_far s x5 x8) fun v5 =>
      ltI (x6 - v5) fun v6 =>
      ltI (x4 ||| ((cI 1) <<< (x8 &&& 31))) fun v7 =>
      if inb x8 21 = true then
      if inb (s.1 664 (ix x8)) 120 = true then
      ltM (wI s 572 (ix (s.1 664 (ix x8))) x7) fun s8 =>
      k209 s8 x1 x3 v7 x8 v6 (x7 + cI 1)
      else none
      else none
    else
      if ((x4 >>> (x9 &&& 31)) &&& (cI 1)) = 0 then
        fM_arrangeExactly_b243 k209 (fM_arrangeExactly_h223 k209 n) s x1 x3 x4 x5 x6 x7 x8 x9 (cI 1)
      else
        fM_arrangeExactly_b243 k209 (fM_arrangeExactly_h223 k209 n) s x1 x3 x4 x5 x6 x7 x8 x9 (cI 0)
def fM_arrangeExactly_h209 : Nat → ev_M → Int32 → Int32 → Int32 → Int32 → Int32 → Int32 → Option (ev_M × Int32)
  | 0, _, _, _, _, _, _, _ => none
  | n + 1, s, x1, x3, x4, x5, x6, x7 =>
    if x7 < x1 then
      ltI (x1 - (cI 1)) fun v9 =>
      fM_arrangeExactly_h223 (fM_arrangeExactly_h209 n) 1048576 s x1 x3 x4 x5 x6 x7 x1 v9
    else
      some (s, x3)
def fM_arrangeExactly_h147 : Nat → ev_M → Int32 → Int32 → Int32 → Option (ev_M × Int32)
  | 0, _, _, _, _ => none
  | n + 1, s, x1, x3, x4 =>
    if x4 < x1 then
      bd1 (fM_far s x1 x4) fun v10 =>
      if inb (((cI 8) * ((cI 1) <<< (x4 &&& 31))) + x4) 2048 = true then
      ltI (v10 + (s.1 667 (ix (((cI 8) * ((cI 1) <<< (x4 &&& 31))) + x4)))) fun v11 =>
      if v11 < x3 then
        fM_arrangeExactly_b190 (fM_arrangeExactly_h147 n) s x1 x4 v11
      else
        fM_arrangeExactly_b190 (fM_arrangeExactly_h147 n) s x1 x4 x3
      else none
    else
      fM_arrangeExactly_h209 1048576 s x1 x3 (cI 0) x1 x3 (cI 0)
def fM_arrangeExactly_h8 : Nat → ev_M → Int32 → Int32 → Int32 → Option (ev_M × Int32)
  | 0, _, _, _, _ => none
  | n + 1, s, x1, x2, x3 =>
    if x3 ≤ 0 then
      fM_arrangeExactly_h147 1048576 s x1 (cI 100000000) (cI 0)
    else
      fM_arrangeExactly_h15 (fM_arrangeExactly_h8 n) 1048576 s x1 x2 x3 (cI 0)
def fM_arrangeExactly (s : ev_M) (a1 : Int32) : Option (ev_M × Int32) :=
  ltI (((cI 1) <<< (a1 &&& 31)) - (cI 1)) fun v12 =>
  fM_arrangeExactly_h8 1048576 s a1 v12 v12
def fM_arrangeByNearest_b80 (k10 : ev_M → Int32 → Int32 → Int32 → Int32 → Int32 → Option (ev_M × Int32)) (k22 : ev_M → Int32 → Int32 → Int32 → Int32 → Int32 → Int32 → Int32 → Option (ev_M × Int32)) (s : ev_M) (x1 : Int32) (x2 : Int32) (x3 : Int32) (x4 : Int32) (x5 : Int32) (x7 : Int32) (y0 : Int32) : Option (ev_M × Int32) :=
  k22 s x1 x2 x3 x4 x5 y0 (x7 + cI 1)
def fM_arrangeByNearest_b73 (k10 : ev_M → Int32 → Int32 → Int32 → Int32 → Int32 → Option (ev_M × Int32)) (k22 : ev_M → Int32 → Int32 → Int32 → Int32 → Int32 → Int32 → Int32 → Option (ev_M × Int32)) (s : ev_M) (x1 : Int32) (x2 : Int32) (x3 : Int32) (x4 : Int32) (x5 : Int32) (x7 : Int32) : Option (ev_M × Int32) :=
  fM_arrangeByNearest_b80 k10 k22 s x1 x2 x3 x4 x5 x7 x7
def fM_arrangeByNearest_b78 (k10 : ev_M → Int32 → Int32 → Int32 → Int32 → Int32 → Option (ev_M × Int32)) (k22 : ev_M → Int32 → Int32 → Int32 → Int32 → Int32 → Int32 → Int32 → Option (ev_M × Int32)) (s : ev_M) (x1 : Int32) (x2 : Int32) (x3 : Int32) (x4 : Int32) (x5 : Int32) (x6 : Int32) (x7 : Int32) : Option (ev_M × Int32) :=
  fM_arrangeByNearest_b80 k10 k22 s x1 x2 x3 x4 x5 x7 x6
def fM_arrangeByNearest_b43 (k10 : ev_M → Int32 → Int32 → Int32 → Int32 → Int32 → Option (ev_M × Int32)) (k22 : ev_M → Int32 → Int32 → Int32 → Int32 → Int32 → Int32 → Int32 → Option (ev_M × Int32)) (s : ev_M) (x1 : Int32) (x2 : Int32) (x3 : Int32) (x4 : Int32) (x5 : Int32) (x6 : Int32) (x7 : Int32) (y0 : Int32) : Option (ev_M × Int32) :=
  if y0 = 0 then
    fM_arrangeByNearest_b78 k10 k22 s x1 x2 x3 x4 x5 x6 x7
  else
    if x6 = (cI (-1)) then
      fM_arrangeByNearest_b73 k10 k22 s x1 x2 x3 x4 x5 x7
    else
      bd1 (fM_far s x3 x7) fun v1 =>
      bd1 (fM_far s x3 x6) fun v2 =>
      if v1 < v2 then
        fM_arrangeByNearest_b73 k10 k22 s x1 x2 x3 x4 x5 x7
      else
        fM_arrangeByNearest_b78 k10 k22 s x1 x2 x3 x4 x5 x6 x7
def fM_arrangeByNearest_h22 (k10 : ev_M → Int32 → Int32 → Int32 → Int32 → Int32 → Option (ev_M × Int32)) : Nat → ev_M → Int32 → Int32 → Int32 → Int32 → Int32 → Int32 → Int32 → Option (ev_M × Int32)
  | 0, _, _, _, _, _, _, _, _ => none
  | n + 1, s, x1, x2, x3, x4, x5, x6, x7 =>
    if x7 < x1 then
      if ((x4 >>> (x7 &&& 31)) &&& (cI 1)) = 0 then
        fM_arrangeByNearest_b43 k10 (fM_arrangeByNearest_h22 k10 n) s x1 x2 x3 x4 x5 x6 x7 (cI 1)
      else
        fM_arrangeByNearest_b43 k10 (fM_arrangeByNearest_h22 k10 n) s x1 x2 x3 x4 x5 x6 x7 (cI 0)
    else
      bd1 (fM_far s x3 x6) fun v3 =>
      ltI (x2 + v3) fun v4 =>
      ltI (x4 ||| ((cI 1) <<< (x6 &&& 31))) fun v5 =>
      if inb x6 21 = true then
      if inb (s.1 664 (ix x6)) 120 = true then
      ltM (wI s 572 (ix (s.1 664 (ix x6))) x5) fun s6 =>
      k10 s6 x1 v4 x6 v5 (x5 + cI 1)
      else none
      else none
def fM_arrangeByNearest_h10 : Nat → ev_M → Int32 → Int32 → Int32 → Int32 → Int32 → Option (ev_M × Int32)
  | 0, _, _, _, _, _, _ => none
  | n + 1, s, x1, x2, x3, x4, x5 =>
    if x5 < x1 then
      fM_arrangeByNearest_h22 (fM_arrangeByNearest_h10 n) 1048576 s x1 x2 x3 x4 x5 (cI (-1)) (cI 0)
    else
      bd1 (fM_far s x3 x1) fun v7 =>
      some (s, (x2 + v7))
def fM_arrangeByNearest (s : ev_M) (a1 : Int32) : Option (ev_M × Int32) :=
  fM_arrangeByNearest_h10 1048576 s a1 (cI 0) a1 (cI 0) (cI 0)
def fM_doArrange_b83 (k33 : ev_M → Int32 → Int32 → Int32 → Option (ev_M × Int32)) (s : ev_M) (x1 : Int32) (x2 : Int32) (x3 : Int32) : Option (ev_M × Int32) :=
  k33 s x1 x2 (x3 + cI 1)
def fM_doArrange_h33 : Nat → ev_M → Int32 → Int32 → Int32 → Option (ev_M × Int32)
  | 0, _, _, _, _ => none
  | n + 1, s, x1, x2, x3 =>
    if x3 < (s.1 549 38) then
      if inb x3 120 = true then
      if (s.1 571 (ix x3)) = x1 then
        if inb x2 21 = true then
        ltM (wI s 664 (ix x2) x3) fun s1 =>
        bd1 (fM_xOf s1 x3) fun v2 =>
        if inb x2 21 = true then
        ltM (wI s1 665 (ix x2) v2) fun s3 =>
        bd1 (fM_yOf s3 x3) fun v4 =>
        if inb x2 21 = true then
        ltM (wI s3 666 (ix x2) v4) fun s5 =>
        fM_doArrange_b83 (fM_doArrange_h33 n) s5 x1 (x2 + cI 1) x3
        else none
        else none
        else none
      else
        fM_doArrange_b83 (fM_doArrange_h33 n) s x1 x2 x3
      else none
    else
      if inb x1 12 = true then
      if inb x2 21 = true then
      ltM (wI s 665 (ix x2) (s.1 608 (ix x1))) fun s6 =>
      if inb x1 12 = true then
      if inb x2 21 = true then
      ltM (wI s6 666 (ix x2) (s6.1 609 (ix x1))) fun s7 =>
      if x2 = 0 then
        some (s7, (cI 0))
      else
        if x2 ≤ (cI 8) then
          bd2 (fM_arrangeExactly s7 x2) fun s8 v9 =>
          some (s8, v9)
        else
          bd2 (fM_arrangeByNearest s7 x2) fun s10 v11 =>
          some (s10, v11)
      else none
      else none
      else none
      else none
def fM_doArrange (s : ev_M) (a1 : Int32) : Option (ev_M × Int32) :=
  bd1 (fM_isRound s a1) fun v12 =>
  if v12 = 0 then
    bd2 (fM_no s (cI (-101))) fun s13 v14 =>
    some (s13, v14)
  else
    bd1 (fM_full s) fun v15 =>
    if v15 = 0 then
      fM_doArrange_h33 1048576 s a1 (cI 0) (cI 0)
    else
      bd2 (fM_no s (cI (-104))) fun s16 v17 =>
      some (s16, v17)
def fM_gates_b91 (k2 : ev_M → Int32 → Int32 → Int32 → Option (ev_M × Int32)) (s : ev_M) (x1 : Int32) (x2 : Int32) (x3 : Int32) (y1 : Int32) (y2 : Int32) : Option (ev_M × Int32) :=
  if inb y1 16 = true then
  ltM (wI s 673 (ix y1) (y2 &&& 1)) fun s1 =>
  if inb x3 16 = true then
  ltM (wI s1 674 (ix x3) x1) fun s2 =>
  if inb x3 16 = true then
  if (s2.1 673 (ix x3)) = 0 then
    k2 s2 x1 x2 (x3 + cI 1)
  else
    some (s2, x3)
  else none
  else none
  else none
def fM_gates_b68 (k2 : ev_M → Int32 → Int32 → Int32 → Option (ev_M × Int32)) (s : ev_M) (x1 : Int32) (x2 : Int32) (x3 : Int32) (x4 : Int32) (y0 : Int32) : Option (ev_M × Int32) :=
  if y0 = 0 then
    fM_gates_b91 k2 s x1 x2 x3 x3 x4
  else
    if inb x3 16 = true then
    fM_gates_b91 k2 s x1 x2 x3 x3 (s.1 673 (ix x3))
    else none
def fM_gates_b67 (k2 : ev_M → Int32 → Int32 → Int32 → Option (ev_M × Int32)) (s : ev_M) (x1 : Int32) (x2 : Int32) (x3 : Int32) (x4 : Int32) : Option (ev_M × Int32) :=
  fM_gates_b68 k2 s x1 x2 x3 x4 (cI 0)
def fM_gates_b20 (k2 : ev_M → Int32 → Int32 → Int32 → Option (ev_M × Int32)) (s : ev_M) (x1 : Int32) (x2 : Int32) (x3 : Int32) (y0 : Int32) : Option (ev_M × Int32) :=
  if inb x3 16 = true then
  if (s.1 674 (ix x3)) = (cI (-1)) then
    fM_gates_b67 k2 s x1 x2 x3 y0
  else
    if inb x3 16 = true then
    if y0 = (s.1 673 (ix x3)) then
      fM_gates_b67 k2 s x1 x2 x3 y0
    else
      if inb x3 16 = true then
      if ((x1 - (s.1 674 (ix x3))) * (s.1 549 84)) < (s.1 549 86) then
        fM_gates_b68 k2 s x1 x2 x3 y0 (cI 1)
      else
        fM_gates_b67 k2 s x1 x2 x3 y0
      else none
    else none
  else none
def fM_gates_h2 : Nat → ev_M → Int32 → Int32 → Int32 → Option (ev_M × Int32)
  | 0, _, _, _, _ => none
  | n + 1, s, x1, x2, x3 =>
    if x3 < (s.1 549 83) then
      if x3 = x2 then
        fM_gates_b20 (fM_gates_h2 n) s x1 x2 x3 (cI 1)
      else
        fM_gates_b20 (fM_gates_h2 n) s x1 x2 x3 (cI 0)
    else
      some (s, (s.1 549 83))
def fM_gates (s : ev_M) (a1 : Int32) (a2 : Int32) : Option (ev_M × Int32) :=
  fM_gates_h2 1048576 s a1 a2 (cI 0)
def fM_pass_b110 (k32 : ev_M → Int32 → Int32 → Option ev_M) (s : ev_M) (x1 : Int32) (x2 : Int32) (y1 : Int32) (y2 : Int32) : Option ev_M :=
  if inb y1 300 = true then
  ltM (wI s 610 (ix y1) (y2 &&& 1)) fun s1 =>
  k32 s1 x1 (x2 + cI 1)
  else none
def fM_pass_b105 (k32 : ev_M → Int32 → Int32 → Option ev_M) (s : ev_M) (x1 : Int32) (x2 : Int32) (y1 : Int32) : Option ev_M :=
  fM_pass_b110 k32 s x1 x2 y1 (cI 1)
def fM_pass_b168 (k121 : ev_M → Int32 → Int32 → Option ev_M) (k132 : ev_M → Int32 → Int32 → Int32 → Option ev_M) (s : ev_M) (x2 : Int32) (x3 : Int32) (x4 : Int32) : Option ev_M :=
  k132 s x2 x3 (x4 + cI 1)
def fM_pass_h132 (k121 : ev_M → Int32 → Int32 → Option ev_M) : Nat → ev_M → Int32 → Int32 → Int32 → Option ev_M
  | 0, _, _, _, _ => none
  | n + 1, s, x2, x3, x4 =>
    if x4 < (s.1 549 166) then
      if inb x4 300 = true then
      if (s.1 672 (ix x4)) = x3 then
        if inb x4 300 = true then
        if inb x2 300 = true then
        ltM (wI s 669 (ix x2) (s.1 668 (ix x4))) fun s2 =>
        fM_pass_b168 k121 (fM_pass_h132 k121 n) s2 (x2 + cI 1) x3 x4
        else none
        else none
      else
        fM_pass_b168 k121 (fM_pass_h132 k121 n) s x2 x3 x4
      else none
    else
      k121 s x2 (x3 + cI 1)
def fM_pass_h182 : Nat → ev_M → Int32 → Option ev_M
  | 0, _, _ => none
  | n + 1, s, x3 =>
    if x3 < (s.1 549 166) then
      if inb x3 300 = true then
      if inb x3 300 = true then
      ltM (wI s 668 (ix x3) (s.1 669 (ix x3))) fun s3 =>
      (fM_pass_h182 n) s3 (x3 + cI 1)
      else none
      else none
    else
      some s
def fM_pass_h121 : Nat → ev_M → Int32 → Int32 → Option ev_M
  | 0, _, _, _ => none
  | n + 1, s, x2, x3 =>
    if x3 ≤ (s.1 549 83) then
      fM_pass_h132 (fM_pass_h121 n) 1048576 s x2 x3 (cI 0)
    else
      fM_pass_h182 1048576 s (cI 0)
def fM_pass_h32 : Nat → ev_M → Int32 → Int32 → Option ev_M
  | 0, _, _, _ => none
  | n + 1, s, x1, x2 =>
    if x2 < (s.1 549 166) then
      if inb x2 300 = true then
      if inb (s.1 668 (ix x2)) 300 = true then
      if x1 = 0 then none else
      if (s.1 549 83) = 0 then none else
      ltI (irem ((s.1 671 (ix (s.1 668 (ix x2)))) / x1) (s.1 549 83)) fun v4 =>
      bd2 (fM_gates s x2 v4) fun s5 v6 =>
      if inb x2 300 = true then
      ltM (wI s5 672 (ix x2) v6) fun s7 =>
      if inb x2 300 = true then
      if inb x2 300 = true then
      if inb (s7.1 668 (ix x2)) 300 = true then
      if (s7.1 610 (ix (s7.1 668 (ix x2)))) = 0 then
        if inb x2 300 = true then
        if (s7.1 672 (ix x2)) = v4 then
          fM_pass_b110 (fM_pass_h32 n) s7 x1 x2 (s7.1 668 (ix x2)) (cI 0)
        else
          fM_pass_b105 (fM_pass_h32 n) s7 x1 x2 (s7.1 668 (ix x2))
        else none
      else
        fM_pass_b105 (fM_pass_h32 n) s7 x1 x2 (s7.1 668 (ix x2))
      else none
      else none
      else none
      else none
      else none
      else none
    else
      fM_pass_h121 1048576 s (cI 0) (cI 0)
def fM_pass_h2 : Nat → ev_M → Int32 → Int32 → Option ev_M
  | 0, _, _, _ => none
  | n + 1, s, x1, x2 =>
    if x2 < (s.1 549 83) then
      if inb x2 16 = true then
      ltM (wI s 673 (ix x2) ((cI 0) &&& 1)) fun s8 =>
      if inb x2 16 = true then
      ltM (wI s8 674 (ix x2) (cI (-1))) fun s9 =>
      (fM_pass_h2 n) s9 x1 (x2 + cI 1)
      else none
      else none
    else
      fM_pass_h32 1048576 s x1 (cI 0)
def fM_pass (s : ev_M) (a1 : Int32) : Option ev_M :=
  fM_pass_h2 1048576 s a1 (cI 0)
def fM_effectiveOf_b117 (k25 : ev_M → Int32 → Int32 → Option (ev_M × Int32)) (k43 : ev_M → Int32 → Int32 → Int32 → Int32 → Option (ev_M × Int32)) (s : ev_M) (x2 : Int32) (x3 : Int32) (x5 : Int32) (y0 : Int32) : Option (ev_M × Int32) :=
  k43 s x2 x3 y0 (x5 + cI 1)
def fM_effectiveOf_b103 (k25 : ev_M → Int32 → Int32 → Option (ev_M × Int32)) (k43 : ev_M → Int32 → Int32 → Int32 → Int32 → Option (ev_M × Int32)) (s : ev_M) (x2 : Int32) (x3 : Int32) (x4 : Int32) (x5 : Int32) (y0 : Int32) : Option (ev_M × Int32) :=
  if y0 = 0 then
    fM_effectiveOf_b117 k25 k43 s x2 x3 x5 x4
  else
    fM_effectiveOf_b117 k25 k43 s x2 x3 x5 x5
def fM_effectiveOf_b102 (k25 : ev_M → Int32 → Int32 → Option (ev_M × Int32)) (k43 : ev_M → Int32 → Int32 → Int32 → Int32 → Option (ev_M × Int32)) (s : ev_M) (x2 : Int32) (x3 : Int32) (x4 : Int32) (x5 : Int32) : Option (ev_M × Int32) :=
  fM_effectiveOf_b103 k25 k43 s x2 x3 x4 x5 (cI 0)
def fM_effectiveOf_b84 (k25 : ev_M → Int32 → Int32 → Option (ev_M × Int32)) (k43 : ev_M → Int32 → Int32 → Int32 → Int32 → Option (ev_M × Int32)) (s : ev_M) (x2 : Int32) (x3 : Int32) (x4 : Int32) (x5 : Int32) : Option (ev_M × Int32) :=
  if inb x5 60 = true then
  bd1 (fM_today s) fun v1 =>
  if (s.1 576 (ix x5)) ≤ v1 then
    fM_effectiveOf_b102 k25 k43 s x2 x3 x4 x5
  else
    fM_effectiveOf_b103 k25 k43 s x2 x3 x4 x5 (cI 1)
  else none
def fM_effectiveOf_h43 (k25 : ev_M → Int32 → Int32 → Option (ev_M × Int32)) : Nat → ev_M → Int32 → Int32 → Int32 → Int32 → Option (ev_M × Int32)
  | 0, _, _, _, _, _ => none
  | n + 1, s, x2, x3, x4, x5 =>
    if x5 < (s.1 549 43) then
      if inb x5 60 = true then
      if (s.1 573 (ix x5)) = x3 then
        if inb x5 60 = true then
        if (s.1 574 (ix x5)) = 0 then
          fM_effectiveOf_b84 k25 (fM_effectiveOf_h43 k25 n) s x2 x3 x4 x5
        else
          if inb x5 60 = true then
          if (s.1 574 (ix x5)) = x2 then
            fM_effectiveOf_b84 k25 (fM_effectiveOf_h43 k25 n) s x2 x3 x4 x5
          else
            fM_effectiveOf_b102 k25 (fM_effectiveOf_h43 k25 n) s x2 x3 x4 x5
          else none
        else none
      else
        fM_effectiveOf_b102 k25 (fM_effectiveOf_h43 k25 n) s x2 x3 x4 x5
      else none
    else
      if x4 = (cI (-1)) then
        some (s, x3)
      else
        if inb x4 60 = true then
        if (s.1 575 (ix x4)) = (cI (-1)) then
          some (s, (cI (-110)))
        else
          if inb x4 60 = true then
          ltI (s.1 575 (ix x4)) fun v2 =>
          if inb v2 120 = true then
          if (s.1 648 (ix v2)) = 0 then
            k25 s x2 v2
          else
            some (s, (cI (-111)))
          else none
          else none
        else none
def fM_effectiveOf_h25 : Nat → ev_M → Int32 → Int32 → Option (ev_M × Int32)
  | 0, _, _, _ => none
  | n + 1, s, x2, x3 =>
    if inb x3 120 = true then
    ltM (wI s 648 (ix x3) ((cI 1) &&& 1)) fun s3 =>
    ltM (wI s3 549 141 x3) fun s4 =>
    fM_effectiveOf_h43 (fM_effectiveOf_h25 n) 1048576 s4 x2 x3 (cI (-1)) (cI 0)
    else none
def fM_effectiveOf_h2 : Nat → ev_M → Int32 → Int32 → Int32 → Option (ev_M × Int32)
  | 0, _, _, _, _ => none
  | n + 1, s, x1, x2, x3 =>
    if x3 < (s.1 549 38) then
      if inb x3 120 = true then
      ltM (wI s 648 (ix x3) ((cI 0) &&& 1)) fun s5 =>
      (fM_effectiveOf_h2 n) s5 x1 x2 (x3 + cI 1)
      else none
    else
      fM_effectiveOf_h25 1048576 s x2 x1
def fM_effectiveOf (s : ev_M) (a1 : Int32) (a2 : Int32) : Option (ev_M × Int32) :=
  fM_effectiveOf_h2 1048576 s a1 a2 (cI 0)
def fM_goalOf (s : ev_M) (a1 : Int32) : Option (ev_M × Int32) :=
  if inb a1 300 = true then
  if (s.1 599 (ix a1)) = 0 then
    if inb a1 300 = true then
    if (s.1 590 (ix a1)) = (cI (-1)) then
      some (s, (cI (-1)))
    else
      if inb a1 300 = true then
      if inb a1 300 = true then
      bd2 (fM_effectiveOf s (s.1 590 (ix a1)) (s.1 588 (ix a1))) fun s1 v2 =>
      some (s1, v2)
      else none
      else none
    else none
  else
    if inb a1 300 = true then
    if inb ((s.1 587 (ix a1)) - (cI 4)) 30 = true then
    ltM (wI s 549 141 (s.1 626 (ix ((s.1 587 (ix a1)) - (cI 4))))) fun s3 =>
    some (s3, (s3.1 549 141))
    else none
    else none
  else none
def fM_findFed_b154 (k7 : ev_M → Int32 → Int32 → Option ev_M) (s : ev_M) (x1 : Int32) (x2 : Int32) : Option ev_M :=
  k7 s x1 (x2 + cI 1)
def fM_findFed_b137 (k7 : ev_M → Int32 → Int32 → Option ev_M) (s : ev_M) (x1 : Int32) (x2 : Int32) (x3 : Int32) : Option ev_M :=
  if inb x3 300 = true then
  ltM (wI s 668 (ix x3) x2) fun s1 =>
  ltM (wI s1 549 166 ((s1.1 549 166) + (cI 1))) fun s2 =>
  fM_findFed_b154 k7 s2 x1 x2
  else none
def fM_findFed_h91 (k7 : ev_M → Int32 → Int32 → Option ev_M) : Nat → ev_M → Int32 → Int32 → Int32 → Option ev_M
  | 0, _, _, _, _ => none
  | n + 1, s, x1, x2, x3 =>
    if x3 ≤ 0 then
      fM_findFed_b137 k7 s x1 x2 x3
    else
      if inb (x3 - (cI 1)) 300 = true then
      if inb (s.1 668 (ix (x3 - (cI 1)))) 300 = true then
      if inb x2 300 = true then
      if (s.1 592 (ix (s.1 668 (ix (x3 - (cI 1)))))) ≤ (s.1 592 (ix x2)) then
        fM_findFed_b137 k7 s x1 x2 x3
      else
        if inb (x3 - (cI 1)) 300 = true then
        if inb x3 300 = true then
        ltM (wI s 668 (ix x3) (s.1 668 (ix (x3 - (cI 1))))) fun s3 =>
        (fM_findFed_h91 k7 n) s3 x1 x2 (x3 + cI (-1))
        else none
        else none
      else none
      else none
      else none
def fM_findFed_b61 (k7 : ev_M → Int32 → Int32 → Option ev_M) (s : ev_M) (x1 : Int32) (x2 : Int32) (y1 : Int32) (y2 : Int32) : Option ev_M :=
  if inb y1 300 = true then
  ltM (wI s 670 (ix y1) y2) fun s4 =>
  if inb x2 300 = true then
  if (s4.1 670 (ix x2)) < 0 then
    fM_findFed_b154 k7 s4 x1 x2
  else
    if inb x2 300 = true then
    if inb (s4.1 670 (ix x2)) 120 = true then
    if (s4.1 571 (ix (s4.1 670 (ix x2)))) = x1 then
      ltI (s4.1 549 166) fun v5 =>
      fM_findFed_h91 k7 1048576 s4 x1 x2 v5
    else
      fM_findFed_b154 k7 s4 x1 x2
    else none
    else none
  else none
  else none
def fM_findFed_b60 (k7 : ev_M → Int32 → Int32 → Option ev_M) (s : ev_M) (x1 : Int32) (x2 : Int32) (y1 : Int32) : Option ev_M :=
  fM_findFed_b61 k7 s x1 x2 y1 (cI (-1))
def fM_findFed_b248 (k162 : ev_M → Int32 → Option ev_M) (k193 : ev_M → Int32 → Int32 → Int32 → Int32 → Option ev_M) (s : ev_M) (x2 : Int32) (x3 : Int32) (x5 : Int32) (y0 : Int32) : Option ev_M :=
  k193 s x2 x3 y0 (x5 + cI 1)
def fM_findFed_b239 (k162 : ev_M → Int32 → Option ev_M) (k193 : ev_M → Int32 → Int32 → Int32 → Int32 → Option ev_M) (s : ev_M) (x2 : Int32) (x3 : Int32) (x4 : Int32) (x5 : Int32) : Option ev_M :=
  fM_findFed_b248 k162 k193 s x2 x3 x5 (x4 + (cI 1))
def fM_findFed_b246 (k162 : ev_M → Int32 → Option ev_M) (k193 : ev_M → Int32 → Int32 → Int32 → Int32 → Option ev_M) (s : ev_M) (x2 : Int32) (x3 : Int32) (x4 : Int32) (x5 : Int32) : Option ev_M :=
  fM_findFed_b248 k162 k193 s x2 x3 x5 x4
def fM_findFed_h193 (k162 : ev_M → Int32 → Option ev_M) : Nat → ev_M → Int32 → Int32 → Int32 → Int32 → Option ev_M
  | 0, _, _, _, _, _ => none
  | n + 1, s, x2, x3, x4, x5 =>
    if x5 < (s.1 549 166) then
      if inb x5 300 = true then
      if inb (s.1 668 (ix x5)) 300 = true then
      if inb (s.1 670 (ix (s.1 668 (ix x5)))) 120 = true then
      ltI (s.1 572 (ix (s.1 670 (ix (s.1 668 (ix x5)))))) fun v6 =>
      if v6 < x3 then
        fM_findFed_b239 k162 (fM_findFed_h193 k162 n) s x2 x3 x4 x5
      else
        if v6 = x3 then
          if x5 < x2 then
            fM_findFed_b239 k162 (fM_findFed_h193 k162 n) s x2 x3 x4 x5
          else
            fM_findFed_b246 k162 (fM_findFed_h193 k162 n) s x2 x3 x4 x5
        else
          fM_findFed_b246 k162 (fM_findFed_h193 k162 n) s x2 x3 x4 x5
      else none
      else none
      else none
    else
      if inb x2 300 = true then
      if inb (s.1 668 (ix x2)) 300 = true then
      ltM (wI s 671 (ix (s.1 668 (ix x2))) x4) fun s7 =>
      k162 s7 (x2 + cI 1)
      else none
      else none
def fM_findFed_h162 : Nat → ev_M → Int32 → Option ev_M
  | 0, _, _ => none
  | n + 1, s, x2 =>
    if x2 < (s.1 549 166) then
      if inb x2 300 = true then
      if inb (s.1 668 (ix x2)) 300 = true then
      if inb (s.1 670 (ix (s.1 668 (ix x2)))) 120 = true then
      ltI (s.1 572 (ix (s.1 670 (ix (s.1 668 (ix x2)))))) fun v8 =>
      fM_findFed_h193 (fM_findFed_h162 n) 1048576 s x2 v8 (cI 0) (cI 0)
      else none
      else none
      else none
    else
      some s
def fM_findFed_h7 : Nat → ev_M → Int32 → Int32 → Option ev_M
  | 0, _, _, _ => none
  | n + 1, s, x1, x2 =>
    if x2 < (s.1 549 58) then
      if inb x2 300 = true then
      ltM (wI s 610 (ix x2) ((cI 0) &&& 1)) fun s9 =>
      if inb x2 300 = true then
      if (s9.1 583 (ix x2)) = (cI 1) then
        if inb x2 300 = true then
        if inb x1 12 = true then
        if (s9.1 591 (ix x2)) = (s9.1 607 (ix x1)) then
          bd2 (fM_goalOf s9 x2) fun s10 v11 =>
          fM_findFed_b61 (fM_findFed_h7 n) s10 x1 x2 x2 v11
        else
          fM_findFed_b60 (fM_findFed_h7 n) s9 x1 x2 x2
        else none
        else none
      else
        fM_findFed_b60 (fM_findFed_h7 n) s9 x1 x2 x2
      else none
      else none
    else
      fM_findFed_h162 1048576 s (cI 0)
def fM_findFed (s : ev_M) (a1 : Int32) : Option ev_M :=
  ltM (wI s 549 166 (cI 0)) fun s12 =>
  fM_findFed_h7 1048576 s12 a1 (cI 0)
def fM_rowSize_b29 (s : ev_M) (k4 : Int32 → Int32 → Int32 → Option Int32) (x1 : Int32) (x3 : Int32) (y0 : Int32) : Option Int32 :=
  k4 x1 y0 (x3 + cI 1)
def fM_rowSize_h4 (s : ev_M) : Nat → Int32 → Int32 → Int32 → Option Int32
  | 0, _, _, _ => none
  | n + 1, x1, x2, x3 =>
    if x3 < (s.1 549 58) then
      if inb x3 300 = true then
      if (s.1 595 (ix x3)) = x1 then
        fM_rowSize_b29 s (fM_rowSize_h4 s n) x1 x3 (x2 + (cI 1))
      else
        fM_rowSize_b29 s (fM_rowSize_h4 s n) x1 x3 x2
      else none
    else
      some x2
def fM_rowSize (s : ev_M) (a1 : Int32) : Option Int32 :=
  fM_rowSize_h4 s 1048576 a1 (cI 0) (cI 0)
def fM_doSort_b100 (k78 : ev_M → Int32 → Int32 → Option (ev_M × Int32)) (s : ev_M) (x1 : Int32) (x2 : Int32) : Option (ev_M × Int32) :=
  bd1 (fM_pass s x2) fun s1 =>
  ltI (x2 * (s1.1 549 83)) fun v2 =>
  ltM (wI s1 549 91 ((s1.1 549 91) + (cI 1))) fun s3 =>
  k78 s3 x1 v2
def fM_doSort_b203 (k130 : ev_M → Int32 → Int32 → Int32 → Option (ev_M × Int32)) (s : ev_M) (x1 : Int32) (x3 : Int32) (x4 : Int32) : Option (ev_M × Int32) :=
  k130 s x1 x3 (x4 + cI 1)
def fM_doSort_h130 : Nat → ev_M → Int32 → Int32 → Int32 → Option (ev_M × Int32)
  | 0, _, _, _, _ => none
  | n + 1, s, x1, x3, x4 =>
    if x4 < (s.1 549 166) then
      if inb x4 300 = true then
      ltI (s.1 668 (ix x4)) fun v4 =>
      if inb v4 300 = true then
      if (s.1 610 (ix v4)) = 0 then
        bd1 (fM_leaves s v4) fun s5 =>
        if inb v4 300 = true then
        ltM (wI s5 595 (ix v4) x1) fun s6 =>
        ltM (wI s6 549 23 ((s6.1 549 23) + (cI 1))) fun s7 =>
        if inb v4 300 = true then
        ltM (wI s7 596 (ix v4) (s7.1 549 23)) fun s8 =>
        bd1 (fM_comes s8 v4 (cI 3)) fun s9 =>
        fM_doSort_b203 (fM_doSort_h130 n) s9 x1 (x3 + cI 1) x4
        else none
        else none
      else
        fM_doSort_b203 (fM_doSort_h130 n) s x1 x3 x4
      else none
      else none
    else
      some (s, x3)
def fM_doSort_b125 (s : ev_M) (x1 : Int32) : Option (ev_M × Int32) :=
  fM_doSort_h130 1048576 s x1 (cI 0) (cI 0)
def fM_doSort_h78 : Nat → ev_M → Int32 → Int32 → Option (ev_M × Int32)
  | 0, _, _, _ => none
  | n + 1, s, x1, x2 =>
    if (s.1 549 166) ≤ 0 then
      fM_doSort_b125 s x1
    else
      if (s.1 549 91) = 0 then
        fM_doSort_b100 (fM_doSort_h78 n) s x1 x2
      else
        if x2 < (s.1 549 166) then
          fM_doSort_b100 (fM_doSort_h78 n) s x1 x2
        else
          fM_doSort_b125 s x1
def fM_doSort_h46 : Nat → ev_M → Int32 → Int32 → Option (ev_M × Int32)
  | 0, _, _, _ => none
  | n + 1, s, x1, x2 =>
    if x2 < (cI 300) then
      if inb x2 300 = true then
      ltM (wI s 610 (ix x2) ((cI 0) &&& 1)) fun s10 =>
      (fM_doSort_h46 n) s10 x1 (x2 + cI 1)
      else none
    else
      bd1 (fM_findFed s x1) fun s11 =>
      ltM (wI s11 549 91 (cI 0)) fun s12 =>
      fM_doSort_h78 1048576 s12 x1 (cI 1)
def fM_doSort (s : ev_M) (a1 : Int32) : Option (ev_M × Int32) :=
  bd1 (fM_isRound s a1) fun v13 =>
  if v13 = 0 then
    bd2 (fM_no s (cI (-101))) fun s14 v15 =>
    some (s14, v15)
  else
    bd1 (fM_rowSize s a1) fun v16 =>
    if v16 ≤ 0 then
      bd1 (fM_full s) fun v17 =>
      if v17 = 0 then
        fM_doSort_h46 1048576 s a1 (cI 0)
      else
        bd2 (fM_no s (cI (-104))) fun s18 v19 =>
        some (s18, v19)
    else
      bd2 (fM_no s (cI (-103))) fun s20 v21 =>
      some (s20, v21)
def fM_rowAt_b71 (s : ev_M) (k2 : Int32 → Int32 → Int32 → Option Int32) (k26 : Int32 → Int32 → Int32 → Int32 → Int32 → Option Int32) (x1 : Int32) (x2 : Int32) (x3 : Int32) (x5 : Int32) (y0 : Int32) : Option Int32 :=
  k26 x1 x2 x3 y0 (x5 + cI 1)
def fM_rowAt_b69 (s : ev_M) (k2 : Int32 → Int32 → Int32 → Option Int32) (k26 : Int32 → Int32 → Int32 → Int32 → Int32 → Option Int32) (x1 : Int32) (x2 : Int32) (x3 : Int32) (x4 : Int32) (x5 : Int32) : Option Int32 :=
  fM_rowAt_b71 s k2 k26 x1 x2 x3 x5 x4
def fM_rowAt_b87 (s : ev_M) (k2 : Int32 → Int32 → Int32 → Option Int32) (x1 : Int32) (x2 : Int32) (x3 : Int32) : Option Int32 :=
  k2 x1 x2 (x3 + cI 1)
def fM_rowAt_h26 (s : ev_M) (k2 : Int32 → Int32 → Int32 → Option Int32) : Nat → Int32 → Int32 → Int32 → Int32 → Int32 → Option Int32
  | 0, _, _, _, _, _ => none
  | n + 1, x1, x2, x3, x4, x5 =>
    if x5 < (s.1 549 58) then
      if inb x5 300 = true then
      if (s.1 595 (ix x5)) = x1 then
        if inb x5 300 = true then
        if inb x3 300 = true then
        if (s.1 596 (ix x5)) < (s.1 596 (ix x3)) then
          fM_rowAt_b71 s k2 (fM_rowAt_h26 s k2 n) x1 x2 x3 x5 (x4 + (cI 1))
        else
          fM_rowAt_b69 s k2 (fM_rowAt_h26 s k2 n) x1 x2 x3 x4 x5
        else none
        else none
      else
        fM_rowAt_b69 s k2 (fM_rowAt_h26 s k2 n) x1 x2 x3 x4 x5
      else none
    else
      if x4 = x2 then
        some x3
      else
        fM_rowAt_b87 s k2 x1 x2 x3
def fM_rowAt_h2 (s : ev_M) : Nat → Int32 → Int32 → Int32 → Option Int32
  | 0, _, _, _ => none
  | n + 1, x1, x2, x3 =>
    if x3 < (s.1 549 58) then
      if inb x3 300 = true then
      if (s.1 595 (ix x3)) = x1 then
        fM_rowAt_h26 s (fM_rowAt_h2 s n) 1048576 x1 x2 x3 (cI 0) (cI 0)
      else
        fM_rowAt_b87 s (fM_rowAt_h2 s n) x1 x2 x3
      else none
    else
      some (cI (-1))
def fM_rowAt (s : ev_M) (a1 : Int32) (a2 : Int32) : Option Int32 :=
  fM_rowAt_h2 s 1048576 a1 a2 (cI 0)
def fM_doOut_h48 : Nat → ev_M → Int32 → Int32 → Int32 → Option (ev_M × Int32)
  | 0, _, _, _, _ => none
  | n + 1, s, x1, x2, x3 =>
    if x3 < x2 then
      bd1 (fM_rowAt s x1 (cI 0)) fun v1 =>
      bd1 (fM_leaves s v1) fun s2 =>
      bd1 (fM_comes s2 v1 (cI 4)) fun s3 =>
      (fM_doOut_h48 n) s3 x1 x2 (x3 + cI 1)
    else
      some (s, x2)
def fM_doOut (s : ev_M) (a1 : Int32) : Option (ev_M × Int32) :=
  bd1 (fM_isRound s a1) fun v4 =>
  if v4 = 0 then
    bd2 (fM_no s (cI (-101))) fun s5 v6 =>
    some (s5, v6)
  else
    bd1 (fM_rowSize s a1) fun v7 =>
    if v7 = 0 then
      bd2 (fM_no s (cI (-103))) fun s8 v9 =>
      some (s8, v9)
    else
      bd1 (fM_full s) fun v10 =>
      if v10 = 0 then
        fM_doOut_h48 1048576 s a1 v7 (cI 0)
      else
        bd2 (fM_no s (cI (-104))) fun s11 v12 =>
        some (s11, v12)
def fM_from_b23 (s : ev_M) (y0 : Int32) (y1 : Int32) : Option Int32 :=
  some (y0 + y1)
def fM_from (s : ev_M) (a0 : Int32) (a1 : Int32) : Option Int32 :=
  if (cI 1440) = 0 then none else
  ltI (irem a0 (cI 1440)) fun v1 =>
  if v1 ≤ a1 then
    fM_from_b23 s ((a0 - v1) + a1) (cI 0)
  else
    fM_from_b23 s ((a0 - v1) + a1) (cI 1440)
def fM_doLeg_b16 (s : ev_M) : Option (ev_M × Int32) :=
  bd2 (fM_no s (cI (-101))) fun s1 v2 =>
  some (s1, v2)
def fM_doLeg_b62 (s : ev_M) : Option (ev_M × Int32) :=
  bd2 (fM_no s (cI (-102))) fun s3 v4 =>
  some (s3, v4)
def fM_doLeg_b85 (s : ev_M) : Option (ev_M × Int32) :=
  bd2 (fM_no s (cI (-104))) fun s5 v6 =>
  some (s5, v6)
def fM_doLeg (s : ev_M) (a1 : Int32) (a2 : Int32) (a3 : Int32) (a4 : Int32) (a5 : Int32) : Option (ev_M × Int32) :=
  bd1 (fM_isPlace s a1) fun v7 =>
  if v7 = 0 then
    fM_doLeg_b16 s
  else
    bd1 (fM_isPlace s a2) fun v8 =>
    if v8 = 0 then
      fM_doLeg_b16 s
    else
      if a1 = a2 then
        fM_doLeg_b62 s
      else
        bd1 (fM_in s a3 (cI 0) (cI 1439)) fun v9 =>
        if v9 = 0 then
          fM_doLeg_b62 s
        else
          bd1 (fM_in s a4 (cI 1) (cI 3000)) fun v10 =>
          if v10 = 0 then
            fM_doLeg_b62 s
          else
            bd1 (fM_in s a5 (cI 1) (cI 20)) fun v11 =>
            if v11 = 0 then
              fM_doLeg_b62 s
            else
              if (s.1 549 93) = (cI 20) then
                fM_doLeg_b85 s
              else
                bd1 (fM_full s) fun v12 =>
                if v12 = 0 then
                  if inb (s.1 549 93) 20 = true then
                  ltM (wI s 611 (ix (s.1 549 93)) a1) fun s13 =>
                  if inb (s13.1 549 93) 20 = true then
                  ltM (wI s13 612 (ix (s13.1 549 93)) a2) fun s14 =>
                  if inb (s14.1 549 93) 20 = true then
                  ltM (wI s14 613 (ix (s14.1 549 93)) a3) fun s15 =>
                  if inb (s15.1 549 93) 20 = true then
                  ltM (wI s15 614 (ix (s15.1 549 93)) a4) fun s16 =>
                  if inb (s16.1 549 93) 20 = true then
                  ltM (wI s16 615 (ix (s16.1 549 93)) a5) fun s17 =>
                  bd1 (fM_from s17 ((s17.1 549 22) + (cI 1)) a3) fun v18 =>
                  if inb (s17.1 549 93) 20 = true then
                  ltM (wI s17 616 (ix (s17.1 549 93)) v18) fun s19 =>
                  if inb (s19.1 549 93) 20 = true then
                  ltM (wI s19 617 (ix (s19.1 549 93)) (cI 0)) fun s20 =>
                  ltM (wI s20 549 93 ((s20.1 549 93) + (cI 1))) fun s21 =>
                  some (s21, ((s21.1 549 93) - (cI 1)))
                  else none
                  else none
                  else none
                  else none
                  else none
                  else none
                  else none
                else
                  fM_doLeg_b85 s
def fM_doLate (s : ev_M) (a1 : Int32) (a2 : Int32) : Option (ev_M × Int32) :=
  bd1 (fM_in s a1 (cI 0) ((s.1 549 93) - (cI 1))) fun v1 =>
  if v1 = 0 then
    bd2 (fM_no s (cI (-101))) fun s2 v3 =>
    some (s2, v3)
  else
    bd1 (fM_in s a2 (cI 1) (cI 600)) fun v4 =>
    if v4 = 0 then
      bd2 (fM_no s (cI (-102))) fun s5 v6 =>
      some (s5, v6)
    else
      bd1 (fM_full s) fun v7 =>
      if v7 = 0 then
        if inb a1 20 = true then
        if inb a1 20 = true then
        ltM (wI s 616 (ix a1) ((s.1 616 (ix a1)) + a2)) fun s8 =>
        if inb a1 20 = true then
        if inb a1 20 = true then
        ltM (wI s8 617 (ix a1) ((s8.1 617 (ix a1)) + a2)) fun s9 =>
        if inb a1 20 = true then
        some (s9, (s9.1 617 (ix a1)))
        else none
        else none
        else none
        else none
        else none
      else
        bd2 (fM_no s (cI (-104))) fun s10 v11 =>
        some (s10, v11)
def fM_doBag_b16 (s : ev_M) : Option (ev_M × Int32) :=
  bd2 (fM_no s (cI (-101))) fun s1 v2 =>
  some (s1, v2)
def fM_doBag_b51 (s : ev_M) : Option (ev_M × Int32) :=
  bd2 (fM_no s (cI (-104))) fun s3 v4 =>
  some (s3, v4)
def fM_doBag (s : ev_M) (a1 : Int32) (a2 : Int32) : Option (ev_M × Int32) :=
  bd1 (fM_isPlace s a1) fun v5 =>
  if v5 = 0 then
    fM_doBag_b16 s
  else
    bd1 (fM_isPlace s a2) fun v6 =>
    if v6 = 0 then
      fM_doBag_b16 s
    else
      if a1 = a2 then
        bd2 (fM_no s (cI (-102))) fun s7 v8 =>
        some (s7, v8)
      else
        if (s.1 549 101) = (cI 80) then
          fM_doBag_b51 s
        else
          bd1 (fM_full s) fun v9 =>
          if v9 = 0 then
            if inb (s.1 549 101) 80 = true then
            ltM (wI s 618 (ix (s.1 549 101)) (cI 0)) fun s10 =>
            if inb (s10.1 549 101) 80 = true then
            ltM (wI s10 619 (ix (s10.1 549 101)) a1) fun s11 =>
            if inb (s11.1 549 101) 80 = true then
            ltM (wI s11 620 (ix (s11.1 549 101)) a2) fun s12 =>
            if inb (s12.1 549 101) 80 = true then
            ltM (wI s12 621 (ix (s12.1 549 101)) (cI (-1))) fun s13 =>
            if inb (s13.1 549 101) 80 = true then
            ltM (wI s13 622 (ix (s13.1 549 101)) (cI (-1))) fun s14 =>
            ltM (wI s14 549 101 ((s14.1 549 101) + (cI 1))) fun s15 =>
            some (s15, ((s15.1 549 101) - (cI 1)))
            else none
            else none
            else none
            else none
            else none
          else
            fM_doBag_b51 s
def fM_isBag (s : ev_M) (a1 : Int32) : Option Int32 :=
  bd1 (fM_in s a1 (cI 0) ((s.1 549 101) - (cI 1))) fun v1 =>
  if bz v1 = true then some v1 else none
def fM_inBag_b29 (s : ev_M) (k4 : Int32 → Int32 → Int32 → Option Int32) (x1 : Int32) (x3 : Int32) (y0 : Int32) : Option Int32 :=
  k4 x1 y0 (x3 + cI 1)
def fM_inBag_h4 (s : ev_M) : Nat → Int32 → Int32 → Int32 → Option Int32
  | 0, _, _, _ => none
  | n + 1, x1, x2, x3 =>
    if x3 < (s.1 549 58) then
      if inb x3 300 = true then
      if (s.1 593 (ix x3)) = x1 then
        fM_inBag_b29 s (fM_inBag_h4 s n) x1 x3 (x2 + (cI 1))
      else
        fM_inBag_b29 s (fM_inBag_h4 s n) x1 x3 x2
      else none
    else
      some x2
def fM_inBag (s : ev_M) (a1 : Int32) : Option Int32 :=
  fM_inBag_h4 s 1048576 a1 (cI 0) (cI 0)
def fM_doInto_b16 (s : ev_M) : Option (ev_M × Int32) :=
  bd2 (fM_no s (cI (-101))) fun s1 v2 =>
  some (s1, v2)
def fM_doInto_b67 (s : ev_M) : Option (ev_M × Int32) :=
  bd2 (fM_no s (cI (-103))) fun s3 v4 =>
  some (s3, v4)
def fM_doInto_b125 (s : ev_M) : Option (ev_M × Int32) :=
  bd2 (fM_no s (cI (-104))) fun s5 v6 =>
  some (s5, v6)
def fM_doInto (s : ev_M) (a1 : Int32) (a2 : Int32) : Option (ev_M × Int32) :=
  bd1 (fM_isBag s a1) fun v7 =>
  if v7 = 0 then
    fM_doInto_b16 s
  else
    bd1 (fM_isItem s a2) fun v8 =>
    if v8 = 0 then
      fM_doInto_b16 s
    else
      if inb a1 80 = true then
      if (s.1 618 (ix a1)) = 0 then
        if inb a2 300 = true then
        if (s.1 583 (ix a2)) = (cI 1) then
          if inb a2 300 = true then
          if inb a1 80 = true then
          if (s.1 591 (ix a2)) = (s.1 619 (ix a1)) then
            if inb a2 300 = true then
            if (s.1 590 (ix a2)) = (cI (-1)) then
              fM_doInto_b67 s
            else
              bd2 (fM_goalOf s a2) fun s9 v10 =>
              bd1 (fM_placeOf s9 (s9.1 549 141)) fun v11 =>
              if inb a1 80 = true then
              if v11 = (s9.1 620 (ix a1)) then
                bd1 (fM_inBag s9 a1) fun v12 =>
                if v12 = (cI 40) then
                  fM_doInto_b125 s9
                else
                  bd1 (fM_full s9) fun v13 =>
                  if v13 = 0 then
                    bd1 (fM_leaves s9 a2) fun s14 =>
                    if inb a2 300 = true then
                    ltM (wI s14 593 (ix a2) a1) fun s15 =>
                    ltM (wI s15 549 23 ((s15.1 549 23) + (cI 1))) fun s16 =>
                    if inb a2 300 = true then
                    ltM (wI s16 594 (ix a2) (s16.1 549 23)) fun s17 =>
                    bd1 (fM_comes s17 a2 (cI 2)) fun s18 =>
                    some (s18, (v12 + (cI 1)))
                    else none
                    else none
                  else
                    fM_doInto_b125 s9
              else
                bd2 (fM_no s9 (cI (-103))) fun s19 v20 =>
                some (s19, v20)
              else none
            else none
          else
            fM_doInto_b67 s
          else none
          else none
        else
          fM_doInto_b67 s
        else none
      else
        fM_doInto_b67 s
      else none
def fM_doClose (s : ev_M) (a1 : Int32) : Option (ev_M × Int32) :=
  bd1 (fM_isBag s a1) fun v1 =>
  if v1 = 0 then
    bd2 (fM_no s (cI (-101))) fun s2 v3 =>
    some (s2, v3)
  else
    if inb a1 80 = true then
    if (s.1 618 (ix a1)) = 0 then
      bd1 (fM_full s) fun v4 =>
      if v4 = 0 then
        if inb a1 80 = true then
        ltM (wI s 618 (ix a1) (cI 1)) fun s5 =>
        bd1 (fM_inBag s5 a1) fun v6 =>
        some (s5, v6)
        else none
      else
        bd2 (fM_no s (cI (-104))) fun s7 v8 =>
        some (s7, v8)
    else
      bd2 (fM_no s (cI (-103))) fun s9 v10 =>
      some (s9, v10)
    else none
def fM_doOpen_b40 (s : ev_M) : Option (ev_M × Int32) :=
  bd2 (fM_no s (cI (-103))) fun s1 v2 =>
  some (s1, v2)
def fM_doOpen_b137 (k76 : ev_M → Int32 → Int32 → Int32 → Option (ev_M × Int32)) (k87 : ev_M → Int32 → Int32 → Int32 → Int32 → Int32 → Option (ev_M × Int32)) (s : ev_M) (x1 : Int32) (x2 : Int32) (x3 : Int32) (x5 : Int32) (y0 : Int32) : Option (ev_M × Int32) :=
  k87 s x1 x2 x3 y0 (x5 + cI 1)
def fM_doOpen_b130 (k76 : ev_M → Int32 → Int32 → Int32 → Option (ev_M × Int32)) (k87 : ev_M → Int32 → Int32 → Int32 → Int32 → Int32 → Option (ev_M × Int32)) (s : ev_M) (x1 : Int32) (x2 : Int32) (x3 : Int32) (x5 : Int32) : Option (ev_M × Int32) :=
  fM_doOpen_b137 k76 k87 s x1 x2 x3 x5 x5
def fM_doOpen_b135 (k76 : ev_M → Int32 → Int32 → Int32 → Option (ev_M × Int32)) (k87 : ev_M → Int32 → Int32 → Int32 → Int32 → Int32 → Option (ev_M × Int32)) (s : ev_M) (x1 : Int32) (x2 : Int32) (x3 : Int32) (x4 : Int32) (x5 : Int32) : Option (ev_M × Int32) :=
  fM_doOpen_b137 k76 k87 s x1 x2 x3 x5 x4
def fM_doOpen_h87 (k76 : ev_M → Int32 → Int32 → Int32 → Option (ev_M × Int32)) : Nat → ev_M → Int32 → Int32 → Int32 → Int32 → Int32 → Option (ev_M × Int32)
  | 0, _, _, _, _, _, _ => none
  | n + 1, s, x1, x2, x3, x4, x5 =>
    if x5 < (s.1 549 58) then
      if inb x5 300 = true then
      if (s.1 593 (ix x5)) = x1 then
        if x4 = (cI (-1)) then
          fM_doOpen_b130 k76 (fM_doOpen_h87 k76 n) s x1 x2 x3 x5
        else
          if inb x5 300 = true then
          if inb x4 300 = true then
          if (s.1 594 (ix x5)) < (s.1 594 (ix x4)) then
            fM_doOpen_b130 k76 (fM_doOpen_h87 k76 n) s x1 x2 x3 x5
          else
            fM_doOpen_b135 k76 (fM_doOpen_h87 k76 n) s x1 x2 x3 x4 x5
          else none
          else none
      else
        fM_doOpen_b135 k76 (fM_doOpen_h87 k76 n) s x1 x2 x3 x4 x5
      else none
    else
      if inb x1 80 = true then
      bd1 (fM_comesIn s x4 (s.1 620 (ix x1))) fun s3 =>
      k76 s3 x1 x2 (x3 + cI 1)
      else none
def fM_doOpen_h76 : Nat → ev_M → Int32 → Int32 → Int32 → Option (ev_M × Int32)
  | 0, _, _, _, _ => none
  | n + 1, s, x1, x2, x3 =>
    if x3 < x2 then
      fM_doOpen_h87 (fM_doOpen_h76 n) 1048576 s x1 x2 x3 (cI (-1)) (cI 0)
    else
      some (s, x2)
def fM_doOpen (s : ev_M) (a1 : Int32) : Option (ev_M × Int32) :=
  bd1 (fM_isBag s a1) fun v4 =>
  if v4 = 0 then
    bd2 (fM_no s (cI (-101))) fun s5 v6 =>
    some (s5, v6)
  else
    if inb a1 80 = true then
    if (s.1 618 (ix a1)) = (cI 1) then
      if inb a1 80 = true then
      if inb a1 80 = true then
      if (s.1 619 (ix a1)) = (s.1 620 (ix a1)) then
        bd1 (fM_full s) fun v7 =>
        if v7 = 0 then
          if inb a1 80 = true then
          ltM (wI s 618 (ix a1) (cI 3)) fun s8 =>
          bd1 (fM_inBag s8 a1) fun v9 =>
          fM_doOpen_h76 1048576 s8 a1 v9 (cI 0)
          else none
        else
          bd2 (fM_no s (cI (-104))) fun s10 v11 =>
          some (s10, v11)
      else
        fM_doOpen_b40 s
      else none
      else none
    else
      fM_doOpen_b40 s
    else none
def fM_openOrders_b28 (s : ev_M) (k4 : Int32 → Int32 → Option Int32) (x2 : Int32) (y0 : Int32) : Option Int32 :=
  k4 y0 (x2 + cI 1)
def fM_openOrders_h4 (s : ev_M) : Nat → Int32 → Int32 → Option Int32
  | 0, _, _ => none
  | n + 1, x1, x2 =>
    if x2 < (s.1 549 119) then
      if inb x2 60 = true then
      if (s.1 632 (ix x2)) = 0 then
        fM_openOrders_b28 s (fM_openOrders_h4 s n) x2 (x1 + (cI 1))
      else
        fM_openOrders_b28 s (fM_openOrders_h4 s n) x2 x1
      else none
    else
      some x1
def fM_openOrders (s : ev_M) : Option Int32 :=
  fM_openOrders_h4 s 1048576 (cI 0) (cI 0)
def fM_isLedgerFull (s : ev_M) (a1 : Int32) (a2 : Int32) : Option Int32 :=
  if (((s.1 549 114) + a1) + a2) ≤ (cI 2000) then
    some (cI 0)
  else
    some (cI 1)
def fM_pay (s : ev_M) (a1 : Int32) (a2 : Int32) (a3 : Int32) (a4 : Int32) : Option ev_M :=
  if a3 ≤ 0 then
    some s
  else
    if inb (s.1 549 114) 2000 = true then
    ltM (wI s 628 (ix (s.1 549 114)) a1) fun s1 =>
    if inb (s1.1 549 114) 2000 = true then
    ltM (wI s1 629 (ix (s1.1 549 114)) a2) fun s2 =>
    if inb (s2.1 549 114) 2000 = true then
    ltM (wI s2 630 (ix (s2.1 549 114)) a3) fun s3 =>
    if inb (s3.1 549 114) 2000 = true then
    ltM (wI s3 631 (ix (s3.1 549 114)) a4) fun s4 =>
    ltM (wI s4 549 114 ((s4.1 549 114) + (cI 1))) fun s5 =>
    some s5
    else none
    else none
    else none
    else none
def fM_priceOf_b102 (s : ev_M) (k12 : Int32 → Int32 → Int32 → Int32 → Option Int32) (x1 : Int32) (x2 : Int32) (x4 : Int32) (y0 : Int32) : Option Int32 :=
  k12 x1 x2 y0 (x4 + cI (-1))
def fM_priceOf_b101 (s : ev_M) (k12 : Int32 → Int32 → Int32 → Int32 → Option Int32) (x1 : Int32) (x2 : Int32) (x3 : Int32) (x4 : Int32) : Option Int32 :=
  fM_priceOf_b102 s k12 x1 x2 x4 x3
def fM_priceOf_b60 (s : ev_M) (k12 : Int32 → Int32 → Int32 → Int32 → Option Int32) (x1 : Int32) (x3 : Int32) (x4 : Int32) (y0 : Int32) : Option Int32 :=
  if inb x4 40 = true then
  if (s.1 637 (ix x4)) = (cI 4) then
    if inb x1 300 = true then
    if inb x4 40 = true then
    if ((s.1 586 (ix x1)) &&& (s.1 638 (ix x4))) ≤ 0 then
      fM_priceOf_b101 s k12 x1 y0 x3 x4
    else
      if inb x4 40 = true then
      fM_priceOf_b102 s k12 x1 y0 x4 (x3 + (s.1 639 (ix x4)))
      else none
    else none
    else none
  else
    fM_priceOf_b101 s k12 x1 y0 x3 x4
  else none
def fM_priceOf_b59 (s : ev_M) (k12 : Int32 → Int32 → Int32 → Int32 → Option Int32) (x1 : Int32) (x2 : Int32) (x3 : Int32) (x4 : Int32) : Option Int32 :=
  fM_priceOf_b60 s k12 x1 x3 x4 x2
def fM_priceOf_h12 (s : ev_M) : Nat → Int32 → Int32 → Int32 → Int32 → Option Int32
  | 0, _, _, _, _ => none
  | n + 1, x1, x2, x3, x4 =>
    if x4 < 0 then
      if x2 = (cI (-1)) then
        some (cI (-1))
      else
        some (x2 + x3)
    else
      if inb x4 40 = true then
      if inb x1 300 = true then
      if (s.1 637 (ix x4)) = (s.1 584 (ix x1)) then
        if inb x1 300 = true then
        if inb x4 40 = true then
        if (s.1 585 (ix x1)) ≤ (s.1 638 (ix x4)) then
          if inb x4 40 = true then
          fM_priceOf_b60 s (fM_priceOf_h12 s n) x1 x3 x4 (s.1 639 (ix x4))
          else none
        else
          fM_priceOf_b59 s (fM_priceOf_h12 s n) x1 x2 x3 x4
        else none
        else none
      else
        fM_priceOf_b59 s (fM_priceOf_h12 s n) x1 x2 x3 x4
      else none
      else none
def fM_priceOf (s : ev_M) (a1 : Int32) : Option Int32 :=
  ltI ((s.1 549 125) - (cI 1)) fun v1 =>
  fM_priceOf_h12 s 1048576 a1 (cI (-1)) (cI 0) v1
def fM_priceDue_b19 (s : ev_M) (y0 : Int32) : Option Int32 :=
  if y0 = (cI (-1)) then
    some (cI 0)
  else
    some (y0 + (cI 100))
def fM_priceDue (s : ev_M) (a1 : Int32) : Option Int32 :=
  if inb a1 300 = true then
  if (s.1 600 (ix a1)) = (cI (-1)) then
    bd1 (fM_priceOf s a1) fun v1 =>
    fM_priceDue_b19 s v1
  else
    fM_priceDue_b19 s (cI (-1))
  else none
def fM_centsDue (s : ev_M) (a1 : Int32) : Option Int32 :=
  if inb a1 300 = true then
  if (s.1 599 (ix a1)) = 0 then
    if inb a1 300 = true then
    some (s.1 589 (ix a1))
    else none
  else
    some (cI 0)
  else none
def fM_handOver_b48 (s : ev_M) : Option (ev_M × Int32) :=
  bd2 (fM_no s (cI (-102))) fun s1 v2 =>
  some (s1, v2)
def fM_handOver_b94 (s : ev_M) : Option (ev_M × Int32) :=
  bd2 (fM_no s (cI (-103))) fun s3 v4 =>
  some (s3, v4)
def fM_handOver_b230 (s : ev_M) : Option (ev_M × Int32) :=
  bd2 (fM_no s (cI (-104))) fun s5 v6 =>
  some (s5, v6)
def fM_handOver_b212 (s : ev_M) (x1 : Int32) (x6 : Int32) (x7 : Int32) (y1 : Int32) (y2 : Int32) : Option (ev_M × Int32) :=
  bd1 (fM_openOrders s) fun v7 =>
  bd1 (fM_isLedgerFull s (y1 + y2) v7) fun v8 =>
  if v8 = 0 then
    bd1 (fM_full s) fun v9 =>
    if v9 = 0 then
      bd1 (fM_leaves s x1) fun s10 =>
      bd1 (fM_comes s10 x1 (cI 5)) fun s11 =>
      bd1 (fM_pay s11 (cI 1) (cI 0) x6 x1) fun s12 =>
      if inb x1 300 = true then
      bd1 (fM_pay s12 (cI 1) (s12.1 587 (ix x1)) x7 x1) fun s13 =>
      some (s13, (cI 1))
      else none
    else
      fM_handOver_b230 s
  else
    fM_handOver_b230 s
def fM_handOver_b202 (s : ev_M) (x1 : Int32) (x6 : Int32) (x7 : Int32) (y1 : Int32) : Option (ev_M × Int32) :=
  if x7 ≤ 0 then
    fM_handOver_b212 s x1 x6 x7 y1 (cI 0)
  else
    fM_handOver_b212 s x1 x6 x7 y1 (cI 1)
def fM_handOver_b160 (s : ev_M) (x1 : Int32) (x4 : Int32) : Option (ev_M × Int32) :=
  bd1 (fM_priceDue s x1) fun v14 =>
  bd1 (fM_centsDue s x1) fun v15 =>
  if x4 = (v14 + v15) then
    if v14 ≤ 0 then
      fM_handOver_b202 s x1 v14 v15 (cI 0)
    else
      fM_handOver_b202 s x1 v14 v15 (cI 1)
  else
    bd2 (fM_no s (cI (-114))) fun s16 v17 =>
    some (s16, v17)
def fM_handOver_b138 (s : ev_M) (x1 : Int32) (x3 : Int32) (x4 : Int32) : Option (ev_M × Int32) :=
  if inb x1 300 = true then
  if ((s.1 586 (ix x1)) &&& (cI 1)) ≤ 0 then
    fM_handOver_b160 s x1 x4
  else
    if x3 = 0 then
      bd2 (fM_no s (cI (-113))) fun s18 v19 =>
      some (s18, v19)
    else
      fM_handOver_b160 s x1 x4
  else none
def fM_handOver_b101 (s : ev_M) (x1 : Int32) (x2 : Int32) (x3 : Int32) (x4 : Int32) : Option (ev_M × Int32) :=
  if inb x1 300 = true then
  if ((s.1 586 (ix x1)) &&& (cI 4)) ≤ 0 then
    fM_handOver_b138 s x1 x3 x4
  else
    if inb x1 300 = true then
    if (s.1 599 (ix x1)) = 0 then
      if inb x1 300 = true then
      if x2 = (s.1 588 (ix x1)) then
        fM_handOver_b138 s x1 x3 x4
      else
        bd2 (fM_no s (cI (-112))) fun s20 v21 =>
        some (s20, v21)
      else none
    else
      fM_handOver_b138 s x1 x3 x4
    else none
  else none
def fM_handOver (s : ev_M) (a1 : Int32) (a2 : Int32) (a3 : Int32) (a4 : Int32) (a5 : Int32) : Option (ev_M × Int32) :=
  bd1 (fM_isItem s a1) fun v22 =>
  if v22 = 0 then
    bd2 (fM_no s (cI (-101))) fun s23 v24 =>
    some (s23, v24)
  else
    bd1 (fM_in s a2 (cI 1) (cI 99)) fun v25 =>
    if v25 = 0 then
      fM_handOver_b48 s
    else
      bd1 (fM_in s a3 (cI 0) (cI 9999)) fun v26 =>
      if v26 = 0 then
        fM_handOver_b48 s
      else
        bd1 (fM_in s a4 (cI 0) (cI 1000000)) fun v27 =>
        if v27 = 0 then
          fM_handOver_b48 s
        else
          if a5 = 0 then
            if inb a1 300 = true then
            if (s.1 583 (ix a1)) = (cI 6) then
              if inb a1 300 = true then
              if (s.1 597 (ix a1)) = (cI (-1)) then
                fM_handOver_b101 s a1 a2 a3 a4
              else
                fM_handOver_b94 s
              else none
            else
              fM_handOver_b94 s
            else none
          else
            if inb a1 300 = true then
            if (s.1 583 (ix a1)) = (cI 4) then
              fM_handOver_b101 s a1 a2 a3 a4
            else
              fM_handOver_b94 s
            else none
def fM_doMiss (s : ev_M) (a1 : Int32) : Option (ev_M × Int32) :=
  bd1 (fM_isItem s a1) fun v1 =>
  if v1 = 0 then
    bd2 (fM_no s (cI (-101))) fun s2 v3 =>
    some (s2, v3)
  else
    if inb a1 300 = true then
    if (s.1 583 (ix a1)) = (cI 4) then
      bd1 (fM_full s) fun v4 =>
      if v4 = 0 then
        bd1 (fM_today s) fun v5 =>
        if inb a1 300 = true then
        ltM (wI s 602 (ix a1) (v5 + (cI 7))) fun s6 =>
        bd1 (fM_comes s6 a1 (cI 6)) fun s7 =>
        if inb a1 300 = true then
        some (s7, (s7.1 602 (ix a1)))
        else none
        else none
      else
        bd2 (fM_no s (cI (-104))) fun s8 v9 =>
        some (s8, v9)
    else
      bd2 (fM_no s (cI (-103))) fun s10 v11 =>
      some (s10, v11)
    else none
def fM_goesBack (s : ev_M) (a1 : Int32) : Option (ev_M × Int32) :=
  if inb a1 300 = true then
  if (s.1 599 (ix a1)) = 0 then
    if inb a1 300 = true then
    ltM (wI s 599 (ix a1) ((cI 1) &&& 1)) fun s1 =>
    if inb a1 300 = true then
    bd1 (fM_comesIn s1 a1 (s1.1 591 (ix a1))) fun s2 =>
    some (s2, (cI 1))
    else none
    else none
  else
    bd1 (fM_leaves s a1) fun s3 =>
    bd1 (fM_comes s3 a1 (cI 7)) fun s4 =>
    some (s4, (cI 7))
  else none
def fM_doRefuse_b46 (s : ev_M) : Option (ev_M × Int32) :=
  bd2 (fM_no s (cI (-103))) fun s1 v2 =>
  some (s1, v2)
def fM_doRefuse_b53 (s : ev_M) (x1 : Int32) : Option (ev_M × Int32) :=
  bd1 (fM_full s) fun v3 =>
  if v3 = 0 then
    bd2 (fM_goesBack s x1) fun s4 v5 =>
    some (s4, v5)
  else
    bd2 (fM_no s (cI (-104))) fun s6 v7 =>
    some (s6, v7)
def fM_doRefuse (s : ev_M) (a1 : Int32) : Option (ev_M × Int32) :=
  bd1 (fM_isItem s a1) fun v8 =>
  if v8 = 0 then
    bd2 (fM_no s (cI (-101))) fun s9 v10 =>
    some (s9, v10)
  else
    if inb a1 300 = true then
    if (s.1 583 (ix a1)) = (cI 4) then
      fM_doRefuse_b53 s a1
    else
      if inb a1 300 = true then
      if (s.1 583 (ix a1)) = (cI 6) then
        if inb a1 300 = true then
        if (s.1 597 (ix a1)) = (cI (-1)) then
          fM_doRefuse_b53 s a1
        else
          fM_doRefuse_b46 s
        else none
      else
        fM_doRefuse_b46 s
      else none
    else none
def fM_inBox_b42 (s : ev_M) (k5 : Int32 → Int32 → Int32 → Int32 → Option Int32) (x1 : Int32) (x2 : Int32) (x4 : Int32) (y0 : Int32) : Option Int32 :=
  k5 x1 x2 y0 (x4 + cI 1)
def fM_inBox_b41 (s : ev_M) (k5 : Int32 → Int32 → Int32 → Int32 → Option Int32) (x1 : Int32) (x2 : Int32) (x3 : Int32) (x4 : Int32) : Option Int32 :=
  fM_inBox_b42 s k5 x1 x2 x4 x3
def fM_inBox_h5 (s : ev_M) : Nat → Int32 → Int32 → Int32 → Int32 → Option Int32
  | 0, _, _, _, _ => none
  | n + 1, x1, x2, x3, x4 =>
    if x4 < (s.1 549 58) then
      if inb x4 300 = true then
      if (s.1 597 (ix x4)) = x1 then
        if inb x4 300 = true then
        if (s.1 598 (ix x4)) = x2 then
          fM_inBox_b42 s (fM_inBox_h5 s n) x1 x2 x4 x4
        else
          fM_inBox_b41 s (fM_inBox_h5 s n) x1 x2 x3 x4
        else none
      else
        fM_inBox_b41 s (fM_inBox_h5 s n) x1 x2 x3 x4
      else none
    else
      some x3
def fM_inBox (s : ev_M) (a1 : Int32) (a2 : Int32) : Option Int32 :=
  fM_inBox_h5 s 1048576 a1 a2 (cI (-1)) (cI 0)
def fM_isLocker (s : ev_M) (a1 : Int32) : Option Int32 :=
  bd1 (fM_in s a1 (cI 0) ((s.1 549 107) - (cI 1))) fun v1 =>
  if bz v1 = true then some v1 else none
def fM_doPut_b16 (s : ev_M) : Option (ev_M × Int32) :=
  bd2 (fM_no s (cI (-101))) fun s1 v2 =>
  some (s1, v2)
def fM_doPut_b93 (s : ev_M) : Option (ev_M × Int32) :=
  bd2 (fM_no s (cI (-103))) fun s3 v4 =>
  some (s3, v4)
def fM_doPut_b149 (s : ev_M) : Option (ev_M × Int32) :=
  bd2 (fM_no s (cI (-104))) fun s5 v6 =>
  some (s5, v6)
def fM_doPut_b131 (s : ev_M) (x1 : Int32) (x2 : Int32) (x4 : Int32) : Option (ev_M × Int32) :=
  if inb x2 8 = true then
  if x4 = (s.1 624 (ix x2)) then
    fM_doPut_b149 s
  else
    bd1 (fM_full s) fun v7 =>
    if v7 = 0 then
      if inb x1 300 = true then
      ltM (wI s 597 (ix x1) x2) fun s8 =>
      if inb x1 300 = true then
      ltM (wI s8 598 (ix x1) x4) fun s9 =>
      bd1 (fM_today s9) fun v10 =>
      if inb x1 300 = true then
      ltM (wI s9 602 (ix x1) (v10 + (cI 3))) fun s11 =>
      bd1 (fM_comes s11 x1 (cI 6)) fun s12 =>
      some (s12, x4)
      else none
      else none
      else none
    else
      fM_doPut_b149 s
  else none
def fM_doPut_h103 : Nat → ev_M → Int32 → Int32 → Int32 → Option (ev_M × Int32)
  | 0, _, _, _, _ => none
  | n + 1, s, x1, x2, x4 =>
    if inb x2 8 = true then
    if x4 < (s.1 624 (ix x2)) then
      bd1 (fM_inBox s x2 x4) fun v13 =>
      if v13 = (cI (-1)) then
        fM_doPut_b131 s x1 x2 x4
      else
        (fM_doPut_h103 n) s x1 x2 (x4 + cI 1)
    else
      fM_doPut_b131 s x1 x2 x4
    else none
def fM_doPut_b53 (s : ev_M) (x1 : Int32) (x2 : Int32) (y0 : Int32) : Option (ev_M × Int32) :=
  if y0 = 0 then
    fM_doPut_b93 s
  else
    if inb x1 300 = true then
    if (s.1 584 (ix x1)) ≤ (cI 1) then
      if inb x1 300 = true then
      if ((s.1 586 (ix x1)) &&& (cI 5)) ≤ 0 then
        bd1 (fM_priceDue s x1) fun v14 =>
        bd1 (fM_centsDue s x1) fun v15 =>
        if (v14 + v15) ≤ 0 then
          fM_doPut_h103 1048576 s x1 x2 (cI 0)
        else
          fM_doPut_b93 s
      else
        fM_doPut_b93 s
      else none
    else
      fM_doPut_b93 s
    else none
def fM_doPut_b52 (s : ev_M) (x1 : Int32) (x2 : Int32) : Option (ev_M × Int32) :=
  fM_doPut_b53 s x1 x2 (cI 0)
def fM_doPut (s : ev_M) (a1 : Int32) (a2 : Int32) : Option (ev_M × Int32) :=
  bd1 (fM_isItem s a1) fun v16 =>
  if v16 = 0 then
    fM_doPut_b16 s
  else
    bd1 (fM_isLocker s a2) fun v17 =>
    if v17 = 0 then
      fM_doPut_b16 s
    else
      if inb a1 300 = true then
      if (s.1 583 (ix a1)) = (cI 4) then
        if inb a2 8 = true then
        if inb a1 300 = true then
        if (s.1 623 (ix a2)) = (s.1 591 (ix a1)) then
          fM_doPut_b53 s a1 a2 (cI 1)
        else
          fM_doPut_b52 s a1 a2
        else none
        else none
      else
        fM_doPut_b52 s a1 a2
      else none
def fM_keyOf (s : ev_M) (a0 : Int32) : Option Int32 :=
  if (cI 9000) = 0 then none else
  some ((cI 1000) + (irem (iushr (((a0 + (cI 1)) * (cI 1103515245)) + (cI 12345)) (cI 16)) (cI 9000)))
def fM_doBox_b97 (k48 : ev_M → Int32 → Int32 → Int32 → Option (ev_M × Int32)) (s : ev_M) (x1 : Int32) (x2 : Int32) (x3 : Int32) : Option (ev_M × Int32) :=
  k48 s x1 x2 (x3 + cI 1)
def fM_doBox_h48 : Nat → ev_M → Int32 → Int32 → Int32 → Option (ev_M × Int32)
  | 0, _, _, _, _ => none
  | n + 1, s, x1, x2, x3 =>
    if inb x1 8 = true then
    if x3 < (s.1 624 (ix x1)) then
      bd1 (fM_inBox s x1 x3) fun v1 =>
      if v1 = (cI (-1)) then
        fM_doBox_b97 (fM_doBox_h48 n) s x1 x2 x3
      else
        bd1 (fM_keyOf s v1) fun v2 =>
        if v2 = x2 then
          bd1 (fM_leaves s v1) fun s3 =>
          bd1 (fM_comes s3 v1 (cI 5)) fun s4 =>
          some (s4, v1)
        else
          fM_doBox_b97 (fM_doBox_h48 n) s x1 x2 x3
    else
      if inb x1 8 = true then
      if inb x1 8 = true then
      ltM (wI s 625 (ix x1) ((s.1 625 (ix x1)) + (cI 1))) fun s5 =>
      some (s5, (cI (-1)))
      else none
      else none
    else none
def fM_doBox (s : ev_M) (a1 : Int32) (a2 : Int32) : Option (ev_M × Int32) :=
  bd1 (fM_isLocker s a1) fun v6 =>
  if v6 = 0 then
    bd2 (fM_no s (cI (-101))) fun s7 v8 =>
    some (s7, v8)
  else
    if inb a1 8 = true then
    if (s.1 625 (ix a1)) < (cI 3) then
      bd1 (fM_full s) fun v9 =>
      if v9 = 0 then
        fM_doBox_h48 1048576 s a1 a2 (cI 0)
      else
        bd2 (fM_no s (cI (-104))) fun s10 v11 =>
        some (s10, v11)
    else
      bd2 (fM_no s (cI (-115))) fun s12 v13 =>
      some (s12, v13)
    else none
def fM_doLose_b47 (s : ev_M) : Option (ev_M × Int32) :=
  bd2 (fM_no s (cI (-103))) fun s1 v2 =>
  some (s1, v2)
def fM_doLose (s : ev_M) (a1 : Int32) : Option (ev_M × Int32) :=
  bd1 (fM_isItem s a1) fun v3 =>
  if v3 = 0 then
    bd2 (fM_no s (cI (-101))) fun s4 v5 =>
    some (s4, v5)
  else
    if inb a1 300 = true then
    if (s.1 583 (ix a1)) = (cI 5) then
      fM_doLose_b47 s
    else
      if inb a1 300 = true then
      if (s.1 583 (ix a1)) = (cI 7) then
        fM_doLose_b47 s
      else
        if inb a1 300 = true then
        if (s.1 583 (ix a1)) = (cI 8) then
          fM_doLose_b47 s
        else
          bd1 (fM_full s) fun v6 =>
          if v6 = 0 then
            bd1 (fM_leaves s a1) fun s7 =>
            bd1 (fM_comes s7 a1 (cI 8)) fun s8 =>
            some (s8, (cI 1))
          else
            bd2 (fM_no s (cI (-104))) fun s9 v10 =>
            some (s9, v10)
        else none
      else none
    else none
def fM_doAccount_b31 (s : ev_M) : Option (ev_M × Int32) :=
  bd2 (fM_no s (cI (-104))) fun s1 v2 =>
  some (s1, v2)
def fM_doAccount (s : ev_M) (a1 : Int32) : Option (ev_M × Int32) :=
  bd1 (fM_isPoint s a1) fun v3 =>
  if v3 = 0 then
    bd2 (fM_no s (cI (-101))) fun s4 v5 =>
    some (s4, v5)
  else
    if (s.1 549 111) = (cI 30) then
      fM_doAccount_b31 s
    else
      bd1 (fM_full s) fun v6 =>
      if v6 = 0 then
        if inb (s.1 549 111) 30 = true then
        ltM (wI s 626 (ix (s.1 549 111)) a1) fun s7 =>
        if inb (s7.1 549 111) 30 = true then
        ltM (wI s7 627 (ix (s7.1 549 111)) (cI 0)) fun s8 =>
        ltM (wI s8 549 111 ((s8.1 549 111) + (cI 1))) fun s9 =>
        some (s9, (((cI 4) + (s9.1 549 111)) - (cI 1)))
        else none
        else none
      else
        fM_doAccount_b31 s
def fM_balanceOf_b65 (s : ev_M) (k5 : Int32 → Int64 → Int32 → Option Int64) (x1 : Int32) (x4 : Int32) (y0 : Int64) : Option Int64 :=
  k5 x1 y0 (x4 + cI 1)
def fM_balanceOf_b39 (s : ev_M) (k5 : Int32 → Int64 → Int32 → Option Int64) (x1 : Int32) (x4 : Int32) (y0 : Int64) : Option Int64 :=
  if inb x4 2000 = true then
  if (s.1 628 (ix x4)) = x1 then
    if inb x4 2000 = true then
    fM_balanceOf_b65 s k5 x1 x4 (y0 - (Int32.toInt64 (s.1 630 (ix x4))))
    else none
  else
    fM_balanceOf_b65 s k5 x1 x4 y0
  else none
def fM_balanceOf_h5 (s : ev_M) : Nat → Int32 → Int64 → Int32 → Option Int64
  | 0, _, _, _ => none
  | n + 1, x1, x2, x4 =>
    if x4 < (s.1 549 114) then
      if inb x4 2000 = true then
      if (s.1 629 (ix x4)) = x1 then
        if inb x4 2000 = true then
        fM_balanceOf_b39 s (fM_balanceOf_h5 s n) x1 x4 (x2 + (Int32.toInt64 (s.1 630 (ix x4))))
        else none
      else
        fM_balanceOf_b39 s (fM_balanceOf_h5 s n) x1 x4 x2
      else none
    else
      some x2
def fM_balanceOf (s : ev_M) (a1 : Int32) : Option Int64 :=
  fM_balanceOf_h5 s 1048576 a1 (cL 0) (cI 0)
def fM_doDeposit_b52 (s : ev_M) : Option (ev_M × Int32) :=
  bd2 (fM_no s (cI (-104))) fun s1 v2 =>
  some (s1, v2)
def fM_doDeposit (s : ev_M) (a1 : Int32) (a2 : Int32) : Option (ev_M × Int32) :=
  bd1 (fM_isCustomer s a1) fun v3 =>
  if v3 = 0 then
    bd2 (fM_no s (cI (-101))) fun s4 v5 =>
    some (s4, v5)
  else
    bd1 (fM_in s a2 (cI 1) (cI 1000000)) fun v6 =>
    if v6 = 0 then
      bd2 (fM_no s (cI (-102))) fun s7 v8 =>
      some (s7, v8)
    else
      bd1 (fM_openOrders s) fun v9 =>
      bd1 (fM_isLedgerFull s (cI 1) v9) fun v10 =>
      if v10 = 0 then
        bd1 (fM_full s) fun v11 =>
        if v11 = 0 then
          bd1 (fM_pay s (cI 1) a1 a2 (cI (-1))) fun s12 =>
          bd1 (fM_balanceOf s12 a1) fun v13 =>
          some (s12, (Int64.toInt32 v13))
        else
          fM_doDeposit_b52 s
      else
        fM_doDeposit_b52 s
def fM_rowOfTariff_b273 (k184 : ev_M → Int32 → Int32 → Int32 → Int32 → Int32 → Int32 → Option (ev_M × Int32)) (s : ev_M) (x1 : Int32) (x2 : Int32) (x3 : Int32) (x4 : Int32) (x6 : Int32) (y0 : Int32) : Option (ev_M × Int32) :=
  k184 s x1 x2 x3 x4 y0 (x6 + cI 1)
def fM_rowOfTariff_b272 (k184 : ev_M → Int32 → Int32 → Int32 → Int32 → Int32 → Int32 → Option (ev_M × Int32)) (s : ev_M) (x1 : Int32) (x2 : Int32) (x3 : Int32) (x4 : Int32) (x6 : Int32) : Option (ev_M × Int32) :=
  fM_rowOfTariff_b273 k184 s x1 x2 x3 x4 x6 (cI 0)
def fM_rowOfTariff_b256 (k184 : ev_M → Int32 → Int32 → Int32 → Int32 → Int32 → Int32 → Option (ev_M × Int32)) (s : ev_M) (x1 : Int32) (x2 : Int32) (x3 : Int32) (x4 : Int32) (x5 : Int32) (x6 : Int32) (y0 : Int32) : Option (ev_M × Int32) :=
  if x5 = 0 then
    fM_rowOfTariff_b272 k184 s x1 x2 x3 x4 x6
  else
    if y0 = 0 then
      fM_rowOfTariff_b273 k184 s x1 x2 x3 x4 x6 (cI 1)
    else
      fM_rowOfTariff_b272 k184 s x1 x2 x3 x4 x6
def fM_rowOfTariff_b225 (k184 : ev_M → Int32 → Int32 → Int32 → Int32 → Int32 → Int32 → Option (ev_M × Int32)) (s : ev_M) (x1 : Int32) (x2 : Int32) (x3 : Int32) (x4 : Int32) (x5 : Int32) (x6 : Int32) : Option (ev_M × Int32) :=
  fM_rowOfTariff_b256 k184 s x1 x2 x3 x4 x5 x6 (cI 0)
def fM_rowOfTariff_b255 (k184 : ev_M → Int32 → Int32 → Int32 → Int32 → Int32 → Int32 → Option (ev_M × Int32)) (s : ev_M) (x1 : Int32) (x2 : Int32) (x3 : Int32) (x4 : Int32) (x5 : Int32) (x6 : Int32) : Option (ev_M × Int32) :=
  fM_rowOfTariff_b256 k184 s x1 x2 x3 x4 x5 x6 (cI 0)
def fM_rowOfTariff_b325 (s : ev_M) (x4 : Int32) (x5 : Int32) (y1 : Int32) (y2 : Int32) : Option (ev_M × Int32) :=
  if inb y1 40 = true then
  ltM (wI s 638 (ix y1) y2) fun s1 =>
  if inb (s1.1 549 125) 40 = true then
  ltM (wI s1 639 (ix (s1.1 549 125)) x4) fun s2 =>
  ltM (wI s2 549 125 ((s2.1 549 125) + (cI 1))) fun s3 =>
  if bz x5 = true then some (s3, x5) else none
  else none
  else none
def fM_rowOfTariff_b305 (s : ev_M) (x1 : Int32) (x2 : Int32) (x3 : Int32) (x4 : Int32) (x5 : Int32) (y1 : Int32) (y2 : Int32) : Option (ev_M × Int32) :=
  if inb y1 40 = true then
  ltM (wI s 637 (ix y1) y2) fun s4 =>
  if x1 = (cI 75) then
    fM_rowOfTariff_b325 s4 x4 x5 (s4.1 549 125) x3
  else
    fM_rowOfTariff_b325 s4 x4 x5 (s4.1 549 125) x2
  else none
def fM_rowOfTariff_h184 : Nat → ev_M → Int32 → Int32 → Int32 → Int32 → Int32 → Int32 → Option (ev_M × Int32)
  | 0, _, _, _, _, _, _, _ => none
  | n + 1, s, x1, x2, x3, x4, x5, x6 =>
    if x6 < (s.1 549 125) then
      if x1 = (cI 75) then
        if inb x6 40 = true then
        if (s.1 637 (ix x6)) = x2 then
          if inb x6 40 = true then
          if (s.1 638 (ix x6)) < x3 then
            fM_rowOfTariff_b225 (fM_rowOfTariff_h184 n) s x1 x2 x3 x4 x5 x6
          else
            fM_rowOfTariff_b256 (fM_rowOfTariff_h184 n) s x1 x2 x3 x4 x5 x6 (cI 1)
          else none
        else
          fM_rowOfTariff_b225 (fM_rowOfTariff_h184 n) s x1 x2 x3 x4 x5 x6
        else none
      else
        if inb x6 40 = true then
        if (s.1 637 (ix x6)) = (cI 4) then
          if inb x6 40 = true then
          if (s.1 638 (ix x6)) = x2 then
            fM_rowOfTariff_b256 (fM_rowOfTariff_h184 n) s x1 x2 x3 x4 x5 x6 (cI 1)
          else
            fM_rowOfTariff_b255 (fM_rowOfTariff_h184 n) s x1 x2 x3 x4 x5 x6
          else none
        else
          fM_rowOfTariff_b255 (fM_rowOfTariff_h184 n) s x1 x2 x3 x4 x5 x6
        else none
    else
      if x5 = 0 then
        if bz x5 = true then some (s, x5) else none
      else
        if x1 = (cI 75) then
          fM_rowOfTariff_b305 s x1 x2 x3 x4 x5 (s.1 549 125) x2
        else
          fM_rowOfTariff_b305 s x1 x2 x3 x4 x5 (s.1 549 125) (cI 4)
def fM_rowOfTariff_b179 (s : ev_M) (x1 : Int32) (x2 : Int32) (x3 : Int32) (x4 : Int32) (y0 : Int32) : Option (ev_M × Int32) :=
  fM_rowOfTariff_h184 1048576 s x1 x2 x3 x4 y0 (cI 0)
def fM_rowOfTariff_b174 (s : ev_M) (x1 : Int32) (x2 : Int32) (x3 : Int32) (x4 : Int32) : Option (ev_M × Int32) :=
  fM_rowOfTariff_b179 s x1 x2 x3 x4 (cI 1)
def fM_rowOfTariff_b178 (s : ev_M) (x1 : Int32) (x2 : Int32) (x3 : Int32) (x4 : Int32) : Option (ev_M × Int32) :=
  fM_rowOfTariff_b179 s x1 x2 x3 x4 (cI 0)
def fM_rowOfTariff_b123 (s : ev_M) (x1 : Int32) (x2 : Int32) (x3 : Int32) (x4 : Int32) (y0 : Int32) : Option (ev_M × Int32) :=
  if y0 = 0 then
    fM_rowOfTariff_b178 s x1 x2 x3 x4
  else
    if x1 = (cI 75) then
      bd1 (fM_in s x2 (cI 0) (cI 3)) fun v5 =>
      if v5 = 0 then
        fM_rowOfTariff_b178 s x1 x2 x3 x4
      else
        bd1 (fM_in s x3 (cI 1) (cI 30000)) fun v6 =>
        if v6 = 0 then
          fM_rowOfTariff_b178 s x1 x2 x3 x4
        else
          fM_rowOfTariff_b174 s x1 x2 x3 x4
    else
      if x2 = (cI 1) then
        fM_rowOfTariff_b174 s x1 x2 x3 x4
      else
        if x2 = (cI 2) then
          fM_rowOfTariff_b174 s x1 x2 x3 x4
        else
          if x2 = (cI 4) then
            fM_rowOfTariff_b174 s x1 x2 x3 x4
          else
            fM_rowOfTariff_b178 s x1 x2 x3 x4
def fM_rowOfTariff_b122 (s : ev_M) (x1 : Int32) (x2 : Int32) (x3 : Int32) (x4 : Int32) : Option (ev_M × Int32) :=
  fM_rowOfTariff_b123 s x1 x2 x3 x4 (cI 0)
def fM_rowOfTariff_b69 (s : ev_M) (x1 : Int32) (x2 : Int32) (y0 : Int32) : Option (ev_M × Int32) :=
  bd1 (fM_eat s (cI 61)) fun s7 =>
  bd2 (fM_digits s7) fun s8 v9 =>
  bd1 (fM_eat s8 (cI 59)) fun s10 =>
  if (s10.1 549 140) = 0 then
    bd1 (fM_in s10 v9 (cI 0) (cI 9999)) fun v11 =>
    if v11 = 0 then
      fM_rowOfTariff_b122 s10 x1 x2 y0 v9
    else
      if (s10.1 549 125) < (cI 40) then
        fM_rowOfTariff_b123 s10 x1 x2 y0 v9 (cI 1)
      else
        fM_rowOfTariff_b122 s10 x1 x2 y0 v9
  else
    some (s10, (cI 0))
def fM_rowOfTariff_b47 (s : ev_M) (x1 : Int32) (y1 : Int32) : Option (ev_M × Int32) :=
  ltM (wI s 549 139 y1) fun s12 =>
  bd2 (fM_digits s12) fun s13 v14 =>
  if x1 = (cI 75) then
    bd2 (fM_comma s13) fun s15 v16 =>
    fM_rowOfTariff_b69 s15 x1 v14 v16
  else
    fM_rowOfTariff_b69 s13 x1 v14 (cI 0)
def fM_rowOfTariff_b23 (s : ev_M) (x1 : Int32) (y1 : Int32) : Option (ev_M × Int32) :=
  if bz y1 = true then
  ltM (wI s 549 140 y1) fun s17 =>
  if (s17.1 549 140) = 0 then
    fM_rowOfTariff_b47 s17 x1 ((s17.1 549 139) + (cI 1))
  else
    fM_rowOfTariff_b47 s17 x1 (s17.1 549 139)
  else none
def fM_rowOfTariff_b22 (s : ev_M) (x1 : Int32) : Option (ev_M × Int32) :=
  fM_rowOfTariff_b23 s x1 (cI 0)
def fM_rowOfTariff (s : ev_M) : Option (ev_M × Int32) :=
  bd1 (fM_look s) fun v18 =>
  if v18 = (cI 75) then
    fM_rowOfTariff_b22 s v18
  else
    if v18 = (cI 86) then
      fM_rowOfTariff_b22 s v18
    else
      fM_rowOfTariff_b23 s v18 (cI 1)
def fM_doTariff_b124 (k66 : ev_M → Int32 → Int32 → Option (ev_M × Int32)) (s : ev_M) (x1 : Int32) (y0 : Int32) : Option (ev_M × Int32) :=
  k66 s x1 y0
def fM_doTariff_b89 (k66 : ev_M → Int32 → Int32 → Option (ev_M × Int32)) (s : ev_M) (x1 : Int32) : Option (ev_M × Int32) :=
  ltI (s.1 549 139) fun v1 =>
  bd2 (fM_rowOfTariff s) fun s2 v3 =>
  if v3 = 0 then
    if (s2.1 549 140) = 0 then
      fM_doTariff_b124 k66 s2 x1 v1
    else
      fM_doTariff_b124 k66 s2 x1 (s2.1 549 139)
  else
    fM_doTariff_b124 k66 s2 x1 (cI (-1))
def fM_doTariff_b232 (s : ev_M) (y1 : Int32) : Option (ev_M × Int32) :=
  bd2 (fM_no s y1) fun s4 v5 =>
  some (s4, v5)
def fM_doTariff_h158 : Nat → ev_M → Int32 → Int32 → Int32 → Int32 → Option (ev_M × Int32)
  | 0, _, _, _, _, _ => none
  | n + 1, s, x1, x2, x3, x4 =>
    if x4 < x1 then
      if inb x4 40 = true then
      if inb x4 40 = true then
      ltM (wI s 637 (ix x4) (s.1 678 (ix x4))) fun s6 =>
      if inb x4 40 = true then
      if inb x4 40 = true then
      ltM (wI s6 638 (ix x4) (s6.1 679 (ix x4))) fun s7 =>
      if inb x4 40 = true then
      if inb x4 40 = true then
      ltM (wI s7 639 (ix x4) (s7.1 680 (ix x4))) fun s8 =>
      (fM_doTariff_h158 n) s8 x1 x2 x3 (x4 + cI 1)
      else none
      else none
      else none
      else none
      else none
      else none
    else
      ltM (wI s 549 125 x1) fun s9 =>
      if x3 = 0 then
        fM_doTariff_b232 s9 ((cI (-1000)) - x2)
      else
        fM_doTariff_b232 s9 (cI (-104))
def fM_doTariff_b155 (s : ev_M) (x1 : Int32) (x2 : Int32) (x3 : Int32) : Option (ev_M × Int32) :=
  fM_doTariff_h158 1048576 s x1 x2 x3 (cI 0)
def fM_doTariff_b145 (s : ev_M) (x1 : Int32) (x2 : Int32) (y0 : Int32) : Option (ev_M × Int32) :=
  if x2 = (cI (-1)) then
    if y0 = 0 then
      some (s, (s.1 549 125))
    else
      fM_doTariff_b155 s x1 x2 y0
  else
    fM_doTariff_b155 s x1 x2 y0
def fM_doTariff_b144 (s : ev_M) (x1 : Int32) (x2 : Int32) : Option (ev_M × Int32) :=
  fM_doTariff_b145 s x1 x2 (cI 0)
def fM_doTariff_b128 (s : ev_M) (x1 : Int32) (x2 : Int32) : Option (ev_M × Int32) :=
  if x2 = (cI (-1)) then
    bd1 (fM_full s) fun v10 =>
    if v10 = 0 then
      fM_doTariff_b144 s x1 x2
    else
      fM_doTariff_b145 s x1 x2 (cI 1)
  else
    fM_doTariff_b144 s x1 x2
def fM_doTariff_h66 : Nat → ev_M → Int32 → Int32 → Option (ev_M × Int32)
  | 0, _, _, _ => none
  | n + 1, s, x1, x2 =>
    if x2 = (cI (-1)) then
      if (s.1 549 139) < (s.1 549 13) then
        fM_doTariff_b89 (fM_doTariff_h66 n) s x1
      else
        if (s.1 549 125) = 0 then
          fM_doTariff_b89 (fM_doTariff_h66 n) s x1
        else
          fM_doTariff_b128 s x1 x2
    else
      fM_doTariff_b128 s x1 x2
def fM_doTariff_h7 : Nat → ev_M → Int32 → Int32 → Option (ev_M × Int32)
  | 0, _, _, _ => none
  | n + 1, s, x1, x2 =>
    if x2 < x1 then
      if inb x2 40 = true then
      if inb x2 40 = true then
      ltM (wI s 678 (ix x2) (s.1 637 (ix x2))) fun s11 =>
      if inb x2 40 = true then
      if inb x2 40 = true then
      ltM (wI s11 679 (ix x2) (s11.1 638 (ix x2))) fun s12 =>
      if inb x2 40 = true then
      if inb x2 40 = true then
      ltM (wI s12 680 (ix x2) (s12.1 639 (ix x2))) fun s13 =>
      (fM_doTariff_h7 n) s13 x1 (x2 + cI 1)
      else none
      else none
      else none
      else none
      else none
      else none
    else
      ltM (wI s 549 125 (cI 0)) fun s14 =>
      ltM (wI s14 549 139 (cI 0)) fun s15 =>
      fM_doTariff_h66 1048576 s15 x1 (cI (-1))
def fM_doTariff (s : ev_M) : Option (ev_M × Int32) :=
  ltI (s.1 549 125) fun v16 =>
  fM_doTariff_h7 1048576 s v16 (cI 0)
def fM_doFrank_b44 (s : ev_M) : Option (ev_M × Int32) :=
  bd2 (fM_no s (cI (-103))) fun s1 v2 =>
  some (s1, v2)
def fM_doFrank_b101 (s : ev_M) : Option (ev_M × Int32) :=
  bd2 (fM_no s (cI (-104))) fun s3 v4 =>
  some (s3, v4)
def fM_doFrank_b84 (s : ev_M) (x1 : Int32) (x2 : Int32) (y1 : Int32) : Option (ev_M × Int32) :=
  bd1 (fM_openOrders s) fun v5 =>
  bd1 (fM_isLedgerFull s y1 v5) fun v6 =>
  if v6 = 0 then
    bd1 (fM_full s) fun v7 =>
    if v7 = 0 then
      if inb x1 300 = true then
      ltM (wI s 600 (ix x1) x2) fun s8 =>
      if inb x1 300 = true then
      bd1 (fM_pay s8 (s8.1 587 (ix x1)) (cI 0) x2 x1) fun s9 =>
      some (s9, x2)
      else none
      else none
    else
      fM_doFrank_b101 s
  else
    fM_doFrank_b101 s
def fM_doFrank (s : ev_M) (a1 : Int32) : Option (ev_M × Int32) :=
  bd1 (fM_isItem s a1) fun v10 =>
  if v10 = 0 then
    bd2 (fM_no s (cI (-101))) fun s11 v12 =>
    some (s11, v12)
  else
    bd1 (fM_priceOf s a1) fun v13 =>
    if inb a1 300 = true then
    if (s.1 600 (ix a1)) = (cI (-1)) then
      bd1 (fM_isEarly s a1) fun v14 =>
      if v14 = 0 then
        fM_doFrank_b44 s
      else
        if v13 = (cI (-1)) then
          fM_doFrank_b44 s
        else
          if inb a1 300 = true then
          bd1 (fM_balanceOf s (s.1 587 (ix a1))) fun v15 =>
          if (lg_cmp v15 (Int32.toInt64 v13)) < 0 then
            bd2 (fM_no s (cI (-116))) fun s16 v17 =>
            some (s16, v17)
          else
            if v13 ≤ 0 then
              fM_doFrank_b84 s a1 v13 (cI 0)
            else
              fM_doFrank_b84 s a1 v13 (cI 1)
          else none
    else
      fM_doFrank_b44 s
    else none
def fM_doOrder_b36 (s : ev_M) : Option (ev_M × Int32) :=
  bd2 (fM_no s (cI (-102))) fun s1 v2 =>
  some (s1, v2)
def fM_doOrder_b91 (s : ev_M) : Option (ev_M × Int32) :=
  bd2 (fM_no s (cI (-104))) fun s3 v4 =>
  some (s3, v4)
def fM_doOrder (s : ev_M) (a1 : Int32) (a2 : Int32) (a3 : Int32) : Option (ev_M × Int32) :=
  bd1 (fM_isCustomer s a1) fun v5 =>
  if v5 = 0 then
    bd2 (fM_no s (cI (-101))) fun s6 v7 =>
    some (s6, v7)
  else
    bd1 (fM_in s a2 (cI 1) (cI 99)) fun v8 =>
    if v8 = 0 then
      fM_doOrder_b36 s
    else
      bd1 (fM_in s a3 (cI 1) (cI 100000)) fun v9 =>
      if v9 = 0 then
        fM_doOrder_b36 s
      else
        bd1 (fM_balanceOf s a1) fun v10 =>
        if (lg_cmp v10 (Int32.toInt64 a3)) < 0 then
          bd2 (fM_no s (cI (-116))) fun s11 v12 =>
          some (s11, v12)
        else
          if (s.1 549 119) = (cI 60) then
            fM_doOrder_b91 s
          else
            bd1 (fM_openOrders s) fun v13 =>
            bd1 (fM_isLedgerFull s (cI 1) (v13 + (cI 1))) fun v14 =>
            if v14 = 0 then
              bd1 (fM_full s) fun v15 =>
              if v15 = 0 then
                if inb (s.1 549 119) 60 = true then
                ltM (wI s 632 (ix (s.1 549 119)) (cI 0)) fun s16 =>
                if inb (s16.1 549 119) 60 = true then
                ltM (wI s16 633 (ix (s16.1 549 119)) a1) fun s17 =>
                if inb (s17.1 549 119) 60 = true then
                ltM (wI s17 634 (ix (s17.1 549 119)) a2) fun s18 =>
                if inb (s18.1 549 119) 60 = true then
                ltM (wI s18 635 (ix (s18.1 549 119)) a3) fun s19 =>
                bd1 (fM_today s19) fun v20 =>
                if inb (s19.1 549 119) 60 = true then
                ltM (wI s19 636 (ix (s19.1 549 119)) (v20 + (cI 30))) fun s21 =>
                ltM (wI s21 549 119 ((s21.1 549 119) + (cI 1))) fun s22 =>
                bd1 (fM_pay s22 a1 (cI 3) a3 (cI (-1))) fun s23 =>
                some (s23, ((s23.1 549 119) - (cI 1)))
                else none
                else none
                else none
                else none
                else none
              else
                fM_doOrder_b91 s
            else
              fM_doOrder_b91 s
def fM_doPayOut_b42 (s : ev_M) : Option (ev_M × Int32) :=
  bd2 (fM_no s (cI (-102))) fun s1 v2 =>
  some (s1, v2)
def fM_doPayOut (s : ev_M) (a1 : Int32) (a2 : Int32) (a3 : Int32) : Option (ev_M × Int32) :=
  bd1 (fM_in s a1 (cI 0) ((s.1 549 119) - (cI 1))) fun v3 =>
  if v3 = 0 then
    bd2 (fM_no s (cI (-101))) fun s4 v5 =>
    some (s4, v5)
  else
    bd1 (fM_in s a2 (cI 1) (cI 99)) fun v6 =>
    if v6 = 0 then
      fM_doPayOut_b42 s
    else
      bd1 (fM_in s a3 (cI 0) (cI 9999)) fun v7 =>
      if v7 = 0 then
        fM_doPayOut_b42 s
      else
        if inb a1 60 = true then
        if (s.1 632 (ix a1)) = 0 then
          if inb a1 60 = true then
          if a2 = (s.1 634 (ix a1)) then
            if a3 = 0 then
              bd2 (fM_no s (cI (-113))) fun s8 v9 =>
              some (s8, v9)
            else
              bd1 (fM_full s) fun v10 =>
              if v10 = 0 then
                if inb a1 60 = true then
                ltM (wI s 632 (ix a1) (cI 1)) fun s11 =>
                if inb a1 60 = true then
                bd1 (fM_pay s11 (cI 3) (cI 1) (s11.1 635 (ix a1)) (cI (-1))) fun s12 =>
                if inb a1 60 = true then
                some (s12, (s12.1 635 (ix a1)))
                else none
                else none
                else none
              else
                bd2 (fM_no s (cI (-104))) fun s13 v14 =>
                some (s13, v14)
          else
            bd2 (fM_no s (cI (-112))) fun s15 v16 =>
            some (s15, v16)
          else none
        else
          bd2 (fM_no s (cI (-103))) fun s17 v18 =>
          some (s17, v18)
        else none
def fM_doClaim_b64 (s : ev_M) : Option (ev_M × Int32) :=
  bd2 (fM_no s (cI (-103))) fun s1 v2 =>
  some (s1, v2)
def fM_doClaim_b90 (s : ev_M) : Option (ev_M × Int32) :=
  bd2 (fM_no s (cI (-104))) fun s3 v4 =>
  some (s3, v4)
def fM_doClaim_b111 (s : ev_M) (x1 : Int32) (y0 : Int32) : Option (ev_M × Int32) :=
  if inb x1 300 = true then
  ltM (wI s 603 (ix x1) ((cI 1) &&& 1)) fun s5 =>
  if inb x1 300 = true then
  bd1 (fM_pay s5 (cI 2) (s5.1 587 (ix x1)) y0 x1) fun s6 =>
  some (s6, y0)
  else none
  else none
def fM_doClaim (s : ev_M) (a1 : Int32) (a2 : Int32) : Option (ev_M × Int32) :=
  bd1 (fM_isItem s a1) fun v7 =>
  if v7 = 0 then
    bd2 (fM_no s (cI (-101))) fun s8 v9 =>
    some (s8, v9)
  else
    bd1 (fM_in s a2 (cI 1) (cI 100000)) fun v10 =>
    if v10 = 0 then
      bd2 (fM_no s (cI (-102))) fun s11 v12 =>
      some (s11, v12)
    else
      if inb a1 300 = true then
      if (s.1 583 (ix a1)) = (cI 8) then
        if inb a1 300 = true then
        if ((s.1 586 (ix a1)) &&& (cI 1)) = 0 then
          fM_doClaim_b64 s
        else
          if inb a1 300 = true then
          if (s.1 603 (ix a1)) = 0 then
            bd1 (fM_openOrders s) fun v13 =>
            bd1 (fM_isLedgerFull s (cI 1) v13) fun v14 =>
            if v14 = 0 then
              bd1 (fM_full s) fun v15 =>
              if v15 = 0 then
                if a2 ≤ (cI 5000) then
                  fM_doClaim_b111 s a1 a2
                else
                  fM_doClaim_b111 s a1 (cI 5000)
              else
                fM_doClaim_b90 s
            else
              fM_doClaim_b90 s
          else
            fM_doClaim_b64 s
          else none
        else none
      else
        fM_doClaim_b64 s
      else none
def fM_doLocker_b48 (s : ev_M) : Option (ev_M × Int32) :=
  bd2 (fM_no s (cI (-104))) fun s1 v2 =>
  some (s1, v2)
def fM_doLocker (s : ev_M) (a1 : Int32) (a2 : Int32) : Option (ev_M × Int32) :=
  bd1 (fM_isPlace s a1) fun v3 =>
  if v3 = 0 then
    bd2 (fM_no s (cI (-101))) fun s4 v5 =>
    some (s4, v5)
  else
    bd1 (fM_in s a2 (cI 1) (cI 10)) fun v6 =>
    if v6 = 0 then
      bd2 (fM_no s (cI (-102))) fun s7 v8 =>
      some (s7, v8)
    else
      if (s.1 549 107) = (cI 8) then
        fM_doLocker_b48 s
      else
        bd1 (fM_full s) fun v9 =>
        if v9 = 0 then
          if inb (s.1 549 107) 8 = true then
          ltM (wI s 623 (ix (s.1 549 107)) a1) fun s10 =>
          if inb (s10.1 549 107) 8 = true then
          ltM (wI s10 624 (ix (s10.1 549 107)) a2) fun s11 =>
          if inb (s11.1 549 107) 8 = true then
          ltM (wI s11 625 (ix (s11.1 549 107)) (cI 0)) fun s12 =>
          ltM (wI s12 549 107 ((s12.1 549 107) + (cI 1))) fun s13 =>
          some (s13, ((s13.1 549 107) - (cI 1)))
          else none
          else none
          else none
        else
          fM_doLocker_b48 s
def fM_doDevice (s : ev_M) (a1 : Int32) (a2 : Int32) : Option (ev_M × Int32) :=
  bd1 (fM_in s a1 (cI 0) (cI 7)) fun v1 =>
  if v1 = 0 then
    bd2 (fM_no s (cI (-101))) fun s2 v3 =>
    some (s2, v3)
  else
    bd1 (fM_in s a2 (cI 0) (cI 1000000000)) fun v4 =>
    if v4 = 0 then
      bd2 (fM_no s (cI (-102))) fun s5 v6 =>
      some (s5, v6)
    else
      bd1 (fM_full s) fun v7 =>
      if v7 = 0 then
        if inb a1 8 = true then
        ltM (wI s 647 (ix a1) ((s.1 549 22) - a2)) fun s8 =>
        if inb a1 8 = true then
        some (s8, (s8.1 647 (ix a1)))
        else none
        else none
      else
        bd2 (fM_no s (cI (-104))) fun s9 v10 =>
        some (s9, v10)
def fM_doScanned_b18 (s : ev_M) : Option (ev_M × Int32) :=
  bd2 (fM_no s (cI (-101))) fun s1 v2 =>
  some (s1, v2)
def fM_doScanned_b67 (s : ev_M) : Option (ev_M × Int32) :=
  bd2 (fM_no s (cI (-102))) fun s3 v4 =>
  some (s3, v4)
def fM_doScanned (s : ev_M) (a1 : Int32) (a2 : Int32) (a3 : Int32) (a4 : Int32) : Option (ev_M × Int32) :=
  bd1 (fM_in s a1 (cI 0) (cI 7)) fun v5 =>
  if v5 = 0 then
    fM_doScanned_b18 s
  else
    bd1 (fM_isItem s a2) fun v6 =>
    if v6 = 0 then
      fM_doScanned_b18 s
    else
      bd1 (fM_in s a3 (cI 0) (cI 9)) fun v7 =>
      if v7 = 0 then
        fM_doScanned_b67 s
      else
        bd1 (fM_in s a4 (cI 0) (cI 1000000000)) fun v8 =>
        if v8 = 0 then
          fM_doScanned_b67 s
        else
          if inb a1 8 = true then
          bd1 (fM_in s (a4 + (s.1 647 (ix a1))) (cI 0) (s.1 549 22)) fun v9 =>
          if v9 = 0 then
            fM_doScanned_b67 s
          else
            bd1 (fM_full s) fun v10 =>
            if v10 = 0 then
              if inb a1 8 = true then
              bd1 (fM_event s a2 ((cI 20) + a3) (cI (-1)) (a4 + (s.1 647 (ix a1)))) fun s11 =>
              some (s11, (cI 1))
              else none
            else
              bd2 (fM_no s (cI (-104))) fun s12 v13 =>
              some (s12, v13)
          else none
def fM_findWays_b191 (k49 : ev_M → Int32 → Int32 → Option ev_M) (k63 : ev_M → Int32 → Int32 → Int32 → Option ev_M) (s : ev_M) (x1 : Int32) (x2 : Int32) (x3 : Int32) : Option ev_M :=
  k63 s x1 x2 (x3 + cI 1)
def fM_findWays_b190 (k49 : ev_M → Int32 → Int32 → Option ev_M) (k63 : ev_M → Int32 → Int32 → Int32 → Option ev_M) (s : ev_M) (x1 : Int32) (x2 : Int32) (x3 : Int32) (y1 : Int32) (y2 : Int32) : Option ev_M :=
  if inb y1 12 = true then
  ltM (wI s 676 (ix y1) y2) fun s1 =>
  fM_findWays_b191 k49 k63 s1 x1 x2 x3
  else none
def fM_findWays_b160 (k49 : ev_M → Int32 → Int32 → Option ev_M) (k63 : ev_M → Int32 → Int32 → Int32 → Option ev_M) (s : ev_M) (x1 : Int32) (x2 : Int32) (x3 : Int32) (x4 : Int32) (x5 : Int32) : Option ev_M :=
  if inb x5 12 = true then
  ltM (wI s 675 (ix x5) x4) fun s2 =>
  if x2 = x1 then
    fM_findWays_b190 k49 k63 s2 x1 x2 x3 x5 x3
  else
    if inb x2 12 = true then
    fM_findWays_b190 k49 k63 s2 x1 x2 x3 x5 (s2.1 676 (ix x2))
    else none
  else none
def fM_findWays_b120 (k49 : ev_M → Int32 → Int32 → Option ev_M) (k63 : ev_M → Int32 → Int32 → Int32 → Option ev_M) (s : ev_M) (x1 : Int32) (x2 : Int32) (x3 : Int32) (y0 : Int32) : Option ev_M :=
  if inb x3 20 = true then
  ltI (y0 + (s.1 614 (ix x3))) fun v3 =>
  if inb x3 20 = true then
  ltI (s.1 612 (ix x3)) fun v4 =>
  if inb v4 12 = true then
  if (s.1 675 (ix v4)) = (cI (-1)) then
    fM_findWays_b160 k49 k63 s x1 x2 x3 v3 v4
  else
    if inb v4 12 = true then
    if v3 < (s.1 675 (ix v4)) then
      fM_findWays_b160 k49 k63 s x1 x2 x3 v3 v4
    else
      fM_findWays_b191 k49 k63 s x1 x2 x3
    else none
  else none
  else none
  else none
def fM_findWays_b265 (k49 : ev_M → Int32 → Int32 → Option ev_M) (k201 : ev_M → Int32 → Int32 → Int32 → Option ev_M) (s : ev_M) (x1 : Int32) (x3 : Int32) (y0 : Int32) : Option ev_M :=
  k201 s x1 y0 (x3 + cI 1)
def fM_findWays_b260 (k49 : ev_M → Int32 → Int32 → Option ev_M) (k201 : ev_M → Int32 → Int32 → Int32 → Option ev_M) (s : ev_M) (x1 : Int32) (x3 : Int32) : Option ev_M :=
  fM_findWays_b265 k49 k201 s x1 x3 x3
def fM_findWays_b264 (k49 : ev_M → Int32 → Int32 → Option ev_M) (k201 : ev_M → Int32 → Int32 → Int32 → Option ev_M) (s : ev_M) (x1 : Int32) (x2 : Int32) (x3 : Int32) : Option ev_M :=
  fM_findWays_b265 k49 k201 s x1 x3 x2
def fM_findWays_b233 (k49 : ev_M → Int32 → Int32 → Option ev_M) (k201 : ev_M → Int32 → Int32 → Int32 → Option ev_M) (s : ev_M) (x1 : Int32) (x2 : Int32) (x3 : Int32) (y0 : Int32) : Option ev_M :=
  if y0 = 0 then
    fM_findWays_b264 k49 k201 s x1 x2 x3
  else
    if x2 = (cI (-1)) then
      fM_findWays_b260 k49 k201 s x1 x3
    else
      if inb x3 12 = true then
      if inb x2 12 = true then
      if (s.1 675 (ix x3)) < (s.1 675 (ix x2)) then
        fM_findWays_b260 k49 k201 s x1 x3
      else
        fM_findWays_b264 k49 k201 s x1 x2 x3
      else none
      else none
def fM_findWays_b232 (k49 : ev_M → Int32 → Int32 → Option ev_M) (k201 : ev_M → Int32 → Int32 → Int32 → Option ev_M) (s : ev_M) (x1 : Int32) (x2 : Int32) (x3 : Int32) : Option ev_M :=
  fM_findWays_b233 k49 k201 s x1 x2 x3 (cI 0)
def fM_findWays_h201 (k49 : ev_M → Int32 → Int32 → Option ev_M) : Nat → ev_M → Int32 → Int32 → Int32 → Option ev_M
  | 0, _, _, _, _ => none
  | n + 1, s, x1, x2, x3 =>
    if x3 < (s.1 549 24) then
      if inb x3 12 = true then
      if (s.1 675 (ix x3)) = (cI (-1)) then
        fM_findWays_b232 k49 (fM_findWays_h201 k49 n) s x1 x2 x3
      else
        if inb x3 12 = true then
        if (s.1 677 (ix x3)) = 0 then
          fM_findWays_b233 k49 (fM_findWays_h201 k49 n) s x1 x2 x3 (cI 1)
        else
          fM_findWays_b232 k49 (fM_findWays_h201 k49 n) s x1 x2 x3
        else none
      else none
    else
      k49 s x1 x2
def fM_findWays_h63 (k49 : ev_M → Int32 → Int32 → Option ev_M) : Nat → ev_M → Int32 → Int32 → Int32 → Option ev_M
  | 0, _, _, _, _ => none
  | n + 1, s, x1, x2, x3 =>
    if x3 < (s.1 549 93) then
      if inb x3 20 = true then
      if (s.1 611 (ix x3)) = x2 then
        if inb x3 20 = true then
        if inb x2 12 = true then
        if (s.1 616 (ix x3)) < (s.1 675 (ix x2)) then
          if inb x2 12 = true then
          if inb x3 20 = true then
          bd1 (fM_from s (s.1 675 (ix x2)) (s.1 613 (ix x3))) fun v5 =>
          fM_findWays_b120 k49 (fM_findWays_h63 k49 n) s x1 x2 x3 v5
          else none
          else none
        else
          if inb x3 20 = true then
          fM_findWays_b120 k49 (fM_findWays_h63 k49 n) s x1 x2 x3 (s.1 616 (ix x3))
          else none
        else none
        else none
      else
        fM_findWays_b191 k49 (fM_findWays_h63 k49 n) s x1 x2 x3
      else none
    else
      fM_findWays_h201 k49 1048576 s x1 (cI (-1)) (cI 0)
def fM_findWays_h49 : Nat → ev_M → Int32 → Int32 → Option ev_M
  | 0, _, _, _ => none
  | n + 1, s, x1, x2 =>
    if x2 = (cI (-1)) then
      some s
    else
      if inb x2 12 = true then
      ltM (wI s 677 (ix x2) ((cI 1) &&& 1)) fun s6 =>
      fM_findWays_h63 (fM_findWays_h49 n) 1048576 s6 x1 x2 (cI 0)
      else none
def fM_findWays_h2 : Nat → ev_M → Int32 → Int32 → Option ev_M
  | 0, _, _, _ => none
  | n + 1, s, x1, x2 =>
    if x2 < (s.1 549 24) then
      if inb x2 12 = true then
      ltM (wI s 675 (ix x2) (cI (-1))) fun s7 =>
      if inb x2 12 = true then
      ltM (wI s7 676 (ix x2) (cI (-1))) fun s8 =>
      if inb x2 12 = true then
      ltM (wI s8 677 (ix x2) ((cI 0) &&& 1)) fun s9 =>
      (fM_findWays_h2 n) s9 x1 (x2 + cI 1)
      else none
      else none
      else none
    else
      if inb x1 12 = true then
      ltM (wI s 675 (ix x1) (s.1 549 22)) fun s10 =>
      fM_findWays_h49 1048576 s10 x1 x1
      else none
def fM_findWays (s : ev_M) (a1 : Int32) : Option ev_M :=
  fM_findWays_h2 1048576 s a1 (cI 0)
def fM_departs_b44 (k9 : ev_M → Int32 → Int32 → Int32 → Option ev_M) (s : ev_M) (x1 : Int32) (x3 : Int32) (y0 : Int32) : Option ev_M :=
  k9 s x1 y0 (x3 + cI 1)
def fM_departs_b43 (k9 : ev_M → Int32 → Int32 → Int32 → Option ev_M) (s : ev_M) (x1 : Int32) (x2 : Int32) (x3 : Int32) : Option ev_M :=
  fM_departs_b44 k9 s x1 x3 x2
def fM_departs_b101 (k56 : ev_M → Int32 → Int32 → Int32 → Int32 → Option ev_M) (s : ev_M) (x1 : Int32) (x2 : Int32) (x4 : Int32) (y0 : Int32) : Option ev_M :=
  k56 s x1 x2 y0 (x4 + cI 1)
def fM_departs_b96 (k56 : ev_M → Int32 → Int32 → Int32 → Int32 → Option ev_M) (s : ev_M) (x1 : Int32) (x2 : Int32) (x4 : Int32) : Option ev_M :=
  fM_departs_b101 k56 s x1 x2 x4 (cI 1)
def fM_departs_b100 (k56 : ev_M → Int32 → Int32 → Int32 → Int32 → Option ev_M) (s : ev_M) (x1 : Int32) (x2 : Int32) (x4 : Int32) : Option ev_M :=
  fM_departs_b101 k56 s x1 x2 x4 (cI 0)
def fM_departs_b234 (k125 : ev_M → Int32 → Int32 → Int32 → Int32 → Option ev_M) (s : ev_M) (x1 : Int32) (x2 : Int32) (x3 : Int32) (x4 : Int32) : Option ev_M :=
  k125 s x1 x2 x3 (x4 + cI 1)
def fM_departs_b186 (k125 : ev_M → Int32 → Int32 → Int32 → Int32 → Option ev_M) (s : ev_M) (x1 : Int32) (x2 : Int32) (x3 : Int32) (x4 : Int32) (y0 : Int32) : Option ev_M :=
  if y0 = 0 then
    fM_departs_b234 k125 s x1 x2 x3 x4
  else
    if x2 ≤ 0 then
      fM_departs_b234 k125 s x1 x2 x3 x4
    else
      if inb x4 80 = true then
      ltM (wI s 618 (ix x4) (cI 2)) fun s1 =>
      if inb x4 80 = true then
      ltM (wI s1 621 (ix x4) x1) fun s2 =>
      if inb x1 20 = true then
      if inb x4 80 = true then
      ltM (wI s2 622 (ix x4) ((s2.1 549 22) + (s2.1 614 (ix x1)))) fun s3 =>
      fM_departs_b234 k125 s3 x1 (x2 + cI (-1)) x3 x4
      else none
      else none
      else none
      else none
def fM_departs_b185 (k125 : ev_M → Int32 → Int32 → Int32 → Int32 → Option ev_M) (s : ev_M) (x1 : Int32) (x2 : Int32) (x3 : Int32) (x4 : Int32) : Option ev_M :=
  fM_departs_b186 k125 s x1 x2 x3 x4 (cI 0)
def fM_departs_b240 (s : ev_M) (x1 : Int32) : Option ev_M :=
  if inb x1 20 = true then
  bd1 (fM_from s ((s.1 549 22) + (cI 1)) (s.1 613 (ix x1))) fun v4 =>
  if inb x1 20 = true then
  ltM (wI s 616 (ix x1) v4) fun s5 =>
  if inb x1 20 = true then
  ltM (wI s5 617 (ix x1) (cI 0)) fun s6 =>
  some s6
  else none
  else none
  else none
def fM_departs_h125 : Nat → ev_M → Int32 → Int32 → Int32 → Int32 → Option ev_M
  | 0, _, _, _, _, _ => none
  | n + 1, s, x1, x2, x3, x4 =>
    if x4 < (s.1 549 101) then
      if x3 = 0 then
        fM_departs_b240 s x1
      else
        if inb x4 80 = true then
        if (s.1 618 (ix x4)) = (cI 1) then
          if inb x4 80 = true then
          if inb x1 20 = true then
          if (s.1 619 (ix x4)) = (s.1 611 (ix x1)) then
            if inb x4 80 = true then
            if inb (s.1 620 (ix x4)) 12 = true then
            if (s.1 676 (ix (s.1 620 (ix x4)))) = x1 then
              fM_departs_b186 (fM_departs_h125 n) s x1 x2 x3 x4 (cI 1)
            else
              fM_departs_b185 (fM_departs_h125 n) s x1 x2 x3 x4
            else none
            else none
          else
            fM_departs_b185 (fM_departs_h125 n) s x1 x2 x3 x4
          else none
          else none
        else
          fM_departs_b185 (fM_departs_h125 n) s x1 x2 x3 x4
        else none
    else
      fM_departs_b240 s x1
def fM_departs_b122 (s : ev_M) (x1 : Int32) (x2 : Int32) (x3 : Int32) : Option ev_M :=
  fM_departs_h125 1048576 s x1 x2 x3 (cI 0)
def fM_departs_h56 : Nat → ev_M → Int32 → Int32 → Int32 → Int32 → Option ev_M
  | 0, _, _, _, _, _ => none
  | n + 1, s, x1, x2, x3, x4 =>
    if x4 < (s.1 549 101) then
      if x3 = 0 then
        if inb x4 80 = true then
        if (s.1 618 (ix x4)) = (cI 1) then
          if inb x4 80 = true then
          if inb x1 20 = true then
          if (s.1 619 (ix x4)) = (s.1 611 (ix x1)) then
            fM_departs_b96 (fM_departs_h56 n) s x1 x2 x4
          else
            fM_departs_b100 (fM_departs_h56 n) s x1 x2 x4
          else none
          else none
        else
          fM_departs_b100 (fM_departs_h56 n) s x1 x2 x4
        else none
      else
        fM_departs_b96 (fM_departs_h56 n) s x1 x2 x4
    else
      if x3 = 0 then
        fM_departs_b122 s x1 x2 x3
      else
        if inb x1 20 = true then
        bd1 (fM_findWays s (s.1 611 (ix x1))) fun s7 =>
        fM_departs_b122 s7 x1 x2 x3
        else none
def fM_departs_h9 : Nat → ev_M → Int32 → Int32 → Int32 → Option ev_M
  | 0, _, _, _, _ => none
  | n + 1, s, x1, x2, x3 =>
    if x3 < (s.1 549 101) then
      if inb x3 80 = true then
      if (s.1 618 (ix x3)) = (cI 2) then
        if inb x3 80 = true then
        if (s.1 621 (ix x3)) = x1 then
          fM_departs_b44 (fM_departs_h9 n) s x1 x3 (x2 - (cI 1))
        else
          fM_departs_b43 (fM_departs_h9 n) s x1 x2 x3
        else none
      else
        fM_departs_b43 (fM_departs_h9 n) s x1 x2 x3
      else none
    else
      fM_departs_h56 1048576 s x1 x2 (cI 0) (cI 0)
def fM_departs (s : ev_M) (a1 : Int32) : Option ev_M :=
  if inb a1 20 = true then
  ltI (s.1 615 (ix a1)) fun v8 =>
  fM_departs_h9 1048576 s a1 v8 (cI 0)
  else none
def fM_nextMinute_b85 (s : ev_M) (k29 : Int32 → Int32 → Option Int32) (x4 : Int32) (y0 : Int32) : Option Int32 :=
  k29 y0 (x4 + cI 1)
def fM_nextMinute_b84 (s : ev_M) (k29 : Int32 → Int32 → Option Int32) (x3 : Int32) (x4 : Int32) : Option Int32 :=
  fM_nextMinute_b85 s k29 x4 x3
def fM_nextMinute_b140 (s : ev_M) (k95 : Int32 → Int32 → Option Int32) (x4 : Int32) (y0 : Int32) : Option Int32 :=
  k95 y0 (x4 + cI 1)
def fM_nextMinute_b139 (s : ev_M) (k95 : Int32 → Int32 → Option Int32) (x3 : Int32) (x4 : Int32) : Option Int32 :=
  fM_nextMinute_b140 s k95 x4 x3
def fM_nextMinute_h95 (s : ev_M) : Nat → Int32 → Int32 → Option Int32
  | 0, _, _ => none
  | n + 1, x3, x4 =>
    if x4 < (s.1 549 93) then
      if inb x4 20 = true then
      if (s.1 616 (ix x4)) ≤ (s.1 549 22) then
        fM_nextMinute_b139 s (fM_nextMinute_h95 s n) x3 x4
      else
        if inb x4 20 = true then
        if (s.1 616 (ix x4)) < x3 then
          if inb x4 20 = true then
          fM_nextMinute_b140 s (fM_nextMinute_h95 s n) x4 (s.1 616 (ix x4))
          else none
        else
          fM_nextMinute_b139 s (fM_nextMinute_h95 s n) x3 x4
        else none
      else none
    else
      some x3
def fM_nextMinute_h29 (s : ev_M) : Nat → Int32 → Int32 → Option Int32
  | 0, _, _ => none
  | n + 1, x3, x4 =>
    if x4 < (s.1 549 101) then
      if inb x4 80 = true then
      if (s.1 618 (ix x4)) = (cI 2) then
        if inb x4 80 = true then
        if (s.1 622 (ix x4)) ≤ (s.1 549 22) then
          fM_nextMinute_b84 s (fM_nextMinute_h29 s n) x3 x4
        else
          if inb x4 80 = true then
          if (s.1 622 (ix x4)) < x3 then
            if inb x4 80 = true then
            fM_nextMinute_b85 s (fM_nextMinute_h29 s n) x4 (s.1 622 (ix x4))
            else none
          else
            fM_nextMinute_b84 s (fM_nextMinute_h29 s n) x3 x4
          else none
        else none
      else
        fM_nextMinute_b84 s (fM_nextMinute_h29 s n) x3 x4
      else none
    else
      fM_nextMinute_h95 s 1048576 x3 (cI 0)
def fM_nextMinute_b25 (s : ev_M) (y0 : Int32) : Option Int32 :=
  fM_nextMinute_h29 s 1048576 y0 (cI 0)
def fM_nextMinute (s : ev_M) (a1 : Int32) : Option Int32 :=
  if (cI 1440) = 0 then none else
  ltI ((((s.1 549 22) / (cI 1440)) + (cI 1)) * (cI 1440)) fun v1 =>
  if v1 < a1 then
    fM_nextMinute_b25 s v1
  else
    fM_nextMinute_b25 s a1
def fM_dayBegins_b40 (k2 : ev_M → Int32 → Option ev_M) (s : ev_M) (x1 : Int32) : Option ev_M :=
  k2 s (x1 + cI 1)
def fM_dayBegins_b103 (k48 : ev_M → Int32 → Option ev_M) (s : ev_M) (x1 : Int32) : Option ev_M :=
  k48 s (x1 + cI 1)
def fM_dayBegins_h111 : Nat → ev_M → Int32 → Option ev_M
  | 0, _, _ => none
  | n + 1, s, x1 =>
    if x1 < (s.1 549 107) then
      if inb x1 8 = true then
      ltM (wI s 625 (ix x1) (cI 0)) fun s1 =>
      (fM_dayBegins_h111 n) s1 (x1 + cI 1)
      else none
    else
      some s
def fM_dayBegins_h48 : Nat → ev_M → Int32 → Option ev_M
  | 0, _, _ => none
  | n + 1, s, x1 =>
    if x1 < (s.1 549 119) then
      if inb x1 60 = true then
      if (s.1 632 (ix x1)) = 0 then
        if inb x1 60 = true then
        bd1 (fM_today s) fun v2 =>
        if (s.1 636 (ix x1)) ≤ v2 then
          if inb x1 60 = true then
          ltM (wI s 632 (ix x1) (cI 2)) fun s3 =>
          if inb x1 60 = true then
          if inb x1 60 = true then
          bd1 (fM_pay s3 (cI 3) (s3.1 633 (ix x1)) (s3.1 635 (ix x1)) (cI (-1))) fun s4 =>
          fM_dayBegins_b103 (fM_dayBegins_h48 n) s4 x1
          else none
          else none
          else none
        else
          fM_dayBegins_b103 (fM_dayBegins_h48 n) s x1
        else none
      else
        fM_dayBegins_b103 (fM_dayBegins_h48 n) s x1
      else none
    else
      fM_dayBegins_h111 1048576 s (cI 0)
def fM_dayBegins_h2 : Nat → ev_M → Int32 → Option ev_M
  | 0, _, _ => none
  | n + 1, s, x1 =>
    if x1 < (s.1 549 58) then
      if inb x1 300 = true then
      if (s.1 583 (ix x1)) = (cI 6) then
        if inb x1 300 = true then
        bd1 (fM_today s) fun v5 =>
        if (s.1 602 (ix x1)) ≤ v5 then
          bd2 (fM_goesBack s x1) fun s6 v7 =>
          fM_dayBegins_b40 (fM_dayBegins_h2 n) s6 x1
        else
          fM_dayBegins_b40 (fM_dayBegins_h2 n) s x1
        else none
      else
        fM_dayBegins_b40 (fM_dayBegins_h2 n) s x1
      else none
    else
      fM_dayBegins_h48 1048576 s (cI 0)
def fM_dayBegins (s : ev_M) : Option ev_M :=
  fM_dayBegins_h2 1048576 s (cI 0)
def fM_doTick_b23 (s : ev_M) : Option (ev_M × Int32) :=
  bd2 (fM_no s (cI (-102))) fun s1 v2 =>
  some (s1, v2)
def fM_doTick_b154 (k51 : ev_M → Int32 → Option (ev_M × Int32)) (k85 : ev_M → Int32 → Int32 → Option (ev_M × Int32)) (s : ev_M) (x2 : Int32) (x3 : Int32) : Option (ev_M × Int32) :=
  k85 s x2 (x3 + cI 1)
def fM_doTick_b188 (k51 : ev_M → Int32 → Option (ev_M × Int32)) (k162 : ev_M → Int32 → Int32 → Option (ev_M × Int32)) (s : ev_M) (x2 : Int32) (x3 : Int32) : Option (ev_M × Int32) :=
  k162 s x2 (x3 + cI 1)
def fM_doTick_h162 (k51 : ev_M → Int32 → Option (ev_M × Int32)) : Nat → ev_M → Int32 → Int32 → Option (ev_M × Int32)
  | 0, _, _, _ => none
  | n + 1, s, x2, x3 =>
    if x3 < (s.1 549 93) then
      if inb x3 20 = true then
      if (s.1 616 (ix x3)) = (s.1 549 22) then
        bd1 (fM_departs s x3) fun s3 =>
        fM_doTick_b188 k51 (fM_doTick_h162 k51 n) s3 x2 x3
      else
        fM_doTick_b188 k51 (fM_doTick_h162 k51 n) s x2 x3
      else none
    else
      k51 s x2
def fM_doTick_h85 (k51 : ev_M → Int32 → Option (ev_M × Int32)) : Nat → ev_M → Int32 → Int32 → Option (ev_M × Int32)
  | 0, _, _, _ => none
  | n + 1, s, x2, x3 =>
    if x3 < (s.1 549 101) then
      if inb x3 80 = true then
      if (s.1 618 (ix x3)) = (cI 2) then
        if inb x3 80 = true then
        if (s.1 622 (ix x3)) = (s.1 549 22) then
          if inb x3 80 = true then
          ltM (wI s 618 (ix x3) (cI 1)) fun s4 =>
          if inb x3 80 = true then
          if inb (s4.1 621 (ix x3)) 20 = true then
          if inb x3 80 = true then
          ltM (wI s4 619 (ix x3) (s4.1 612 (ix (s4.1 621 (ix x3))))) fun s5 =>
          if inb x3 80 = true then
          ltM (wI s5 621 (ix x3) (cI (-1))) fun s6 =>
          if inb x3 80 = true then
          ltM (wI s6 622 (ix x3) (cI (-1))) fun s7 =>
          fM_doTick_b154 k51 (fM_doTick_h85 k51 n) s7 x2 x3
          else none
          else none
          else none
          else none
          else none
          else none
        else
          fM_doTick_b154 k51 (fM_doTick_h85 k51 n) s x2 x3
        else none
      else
        fM_doTick_b154 k51 (fM_doTick_h85 k51 n) s x2 x3
      else none
    else
      fM_doTick_h162 k51 1048576 s x2 (cI 0)
def fM_doTick_b83 (k51 : ev_M → Int32 → Option (ev_M × Int32)) (s : ev_M) (x2 : Int32) : Option (ev_M × Int32) :=
  fM_doTick_h85 k51 1048576 s x2 (cI 0)
def fM_doTick_h51 : Nat → ev_M → Int32 → Option (ev_M × Int32)
  | 0, _, _ => none
  | n + 1, s, x2 =>
    if (s.1 549 22) < x2 then
      bd1 (fM_nextMinute s x2) fun v8 =>
      ltM (wI s 549 22 v8) fun s9 =>
      if (cI 1440) = 0 then none else
      if (irem (s9.1 549 22) (cI 1440)) = 0 then
        bd1 (fM_dayBegins s9) fun s10 =>
        fM_doTick_b83 (fM_doTick_h51 n) s10 x2
      else
        fM_doTick_b83 (fM_doTick_h51 n) s9 x2
    else
      some (s, (s.1 549 22))
def fM_doTick (s : ev_M) (a1 : Int32) : Option (ev_M × Int32) :=
  bd1 (fM_in s a1 (cI 1) (cI 1440)) fun v11 =>
  if v11 = 0 then
    fM_doTick_b23 s
  else
    if (s.1 549 22) ≤ ((cI 1000000000) - a1) then
      bd1 (fM_full s) fun v12 =>
      if v12 = 0 then
        ltI ((s.1 549 22) + a1) fun v13 =>
        fM_doTick_h51 1048576 s v13
      else
        bd2 (fM_no s (cI (-104))) fun s14 v15 =>
        some (s14, v15)
    else
      fM_doTick_b23 s
def fM_act_b516 (s : ev_M) (y1 : Int32) (y2 : Int32) (y3 : Int32) : Option (ev_M × Int32) :=
  bd2 (fM_doWish s y1 y2 y3) fun s1 v2 =>
  some (s1, v2)
def fM_act (s : ev_M) : Option (ev_M × Int32) :=
  ltI (s.1 553 (ix (cI 0))) fun v3 =>
  ltI (s.1 553 (ix (cI 1))) fun v4 =>
  ltI (s.1 553 (ix (cI 2))) fun v5 =>
  ltI (s.1 553 (ix (cI 3))) fun v6 =>
  if (s.1 549 16) = cI 1 then
    bd2 (fM_doBook s) fun s7 v8 =>
    some (s7, v8)
  else
  if (s.1 549 16) = cI 2 then
    bd2 (fM_doNote s v3 v4 (cI 1) v5 v6) fun s9 v10 =>
    some (s9, v10)
  else
  if (s.1 549 16) = cI 3 then
    bd2 (fM_doNote s v3 v4 (cI 0) (cI 0) v5) fun s11 v12 =>
    some (s11, v12)
  else
  if (s.1 549 16) = cI 4 then
    bd2 (fM_doSheet s v3) fun s13 v14 =>
    some (s13, v14)
  else
  if (s.1 549 16) = cI 5 then
    bd2 (fM_doItem s v3 v4 v5 v6 (s.1 553 (ix (cI 4))) (s.1 553 (ix (cI 5)))) fun s15 v16 =>
    some (s15, v16)
  else
  if (s.1 549 16) = cI 6 then
    bd2 (fM_doAddress s v3 v4) fun s17 v18 =>
    some (s17, v18)
  else
  if (s.1 549 16) = cI 7 then
    bd2 (fM_doTake s v3) fun s19 v20 =>
    some (s19, v20)
  else
  if (s.1 549 16) = cI 8 then
    bd2 (fM_doClerk s v3 v4 v5) fun s21 v22 =>
    some (s21, v22)
  else
  if (s.1 549 16) = cI 9 then
    bd2 (fM_doPost s v3 v4) fun s23 v24 =>
    some (s23, v24)
  else
  if (s.1 549 16) = cI 10 then
    bd2 (fM_doMachine s v3 v4 v5 v6) fun s25 v26 =>
    some (s25, v26)
  else
  if (s.1 549 16) = cI 11 then
    bd2 (fM_doRound s v3 v4 v5) fun s27 v28 =>
    some (s27, v28)
  else
  if (s.1 549 16) = cI 12 then
    bd2 (fM_doAssign s v3 v4) fun s29 v30 =>
    some (s29, v30)
  else
  if (s.1 549 16) = cI 13 then
    bd2 (fM_doArrange s v3) fun s31 v32 =>
    some (s31, v32)
  else
  if (s.1 549 16) = cI 14 then
    bd2 (fM_doSort s v3) fun s33 v34 =>
    some (s33, v34)
  else
  if (s.1 549 16) = cI 15 then
    bd2 (fM_doOut s v3) fun s35 v36 =>
    some (s35, v36)
  else
  if (s.1 549 16) = cI 16 then
    bd2 (fM_doLeg s v3 v4 v5 v6 (s.1 553 (ix (cI 4)))) fun s37 v38 =>
    some (s37, v38)
  else
  if (s.1 549 16) = cI 17 then
    bd2 (fM_doLate s v3 v4) fun s39 v40 =>
    some (s39, v40)
  else
  if (s.1 549 16) = cI 18 then
    bd2 (fM_doBag s v3 v4) fun s41 v42 =>
    some (s41, v42)
  else
  if (s.1 549 16) = cI 19 then
    bd2 (fM_doInto s v3 v4) fun s43 v44 =>
    some (s43, v44)
  else
  if (s.1 549 16) = cI 20 then
    bd2 (fM_doClose s v3) fun s45 v46 =>
    some (s45, v46)
  else
  if (s.1 549 16) = cI 21 then
    bd2 (fM_doOpen s v3) fun s47 v48 =>
    some (s47, v48)
  else
  if (s.1 549 16) = cI 22 then
    bd2 (fM_handOver s v3 v4 v5 v6 (cI 1)) fun s49 v50 =>
    some (s49, v50)
  else
  if (s.1 549 16) = cI 23 then
    bd2 (fM_doMiss s v3) fun s51 v52 =>
    some (s51, v52)
  else
  if (s.1 549 16) = cI 24 then
    bd2 (fM_doRefuse s v3) fun s53 v54 =>
    some (s53, v54)
  else
  if (s.1 549 16) = cI 25 then
    bd2 (fM_doPut s v3 v4) fun s55 v56 =>
    some (s55, v56)
  else
  if (s.1 549 16) = cI 26 then
    bd2 (fM_handOver s v3 v4 v5 v6 (cI 0)) fun s57 v58 =>
    some (s57, v58)
  else
  if (s.1 549 16) = cI 27 then
    bd2 (fM_doBox s v3 v4) fun s59 v60 =>
    some (s59, v60)
  else
  if (s.1 549 16) = cI 28 then
    bd2 (fM_doLose s v3) fun s61 v62 =>
    some (s61, v62)
  else
  if (s.1 549 16) = cI 29 then
    bd2 (fM_doAccount s v3) fun s63 v64 =>
    some (s63, v64)
  else
  if (s.1 549 16) = cI 30 then
    bd2 (fM_doDeposit s v3 v4) fun s65 v66 =>
    some (s65, v66)
  else
  if (s.1 549 16) = cI 31 then
    bd2 (fM_doTariff s) fun s67 v68 =>
    some (s67, v68)
  else
  if (s.1 549 16) = cI 32 then
    bd2 (fM_doFrank s v3) fun s69 v70 =>
    some (s69, v70)
  else
  if (s.1 549 16) = cI 33 then
    bd2 (fM_doOrder s v3 v4 v5) fun s71 v72 =>
    some (s71, v72)
  else
  if (s.1 549 16) = cI 34 then
    bd2 (fM_doPayOut s v3 v4 v5) fun s73 v74 =>
    some (s73, v74)
  else
  if (s.1 549 16) = cI 35 then
    bd2 (fM_doClaim s v3 v4) fun s75 v76 =>
    some (s75, v76)
  else
  if (s.1 549 16) = cI 36 then
    bd2 (fM_doLocker s v3 v4) fun s77 v78 =>
    some (s77, v78)
  else
  if (s.1 549 16) = cI 37 then
    bd2 (fM_doDevice s v3 v4) fun s79 v80 =>
    some (s79, v80)
  else
  if (s.1 549 16) = cI 38 then
    bd2 (fM_doScanned s v3 v4 v5 v6) fun s81 v82 =>
    some (s81, v82)
  else
  if (s.1 549 16) = cI 39 then
    if v5 = (cI 1) then
      fM_act_b516 s v3 v4 (cI 1)
    else
      fM_act_b516 s v3 v4 (cI 0)
  else
  bd2 (fM_doTick s v3) fun s83 v84 =>
  some (s83, v84)
def fM_call_h109 (k97 : ev_M → Int32 → Int32 → Int32 → Option (ev_M × Int32)) : Nat → ev_M → Int32 → Int32 → Int32 → Int32 → Option (ev_M × Int32)
  | 0, _, _, _, _, _ => none
  | n + 1, s, x1, x2, x3, x4 =>
    if x4 < 0 then
      k97 s x1 x2 (x3 + cI 1)
    else
      if inb x3 6 = true then
      bd1 (fM_note s ((s.1 553 (ix x3)) >>> (x4 &&& 31))) fun s1 =>
      ltI (x4 - (cI 8)) fun v2 =>
      (fM_call_h109 k97 n) s1 x1 x2 x3 v2
      else none
def fM_call_b195 (s : ev_M) (x2 : Int32) : Option (ev_M × Int32) :=
  ltM (wI s 549 10 ((s.1 549 10) + (cI 1))) fun s3 =>
  some (s3, x2)
def fM_call_h171 : Nat → ev_M → Int32 → Int32 → Option (ev_M × Int32)
  | 0, _, _, _ => none
  | n + 1, s, x2, x3 =>
    if x3 < (s.1 549 13) then
      if inb x3 4096 = true then
      bd1 (fM_note s (s.1 554 (ix x3))) fun s4 =>
      (fM_call_h171 n) s4 x2 (x3 + cI 1)
      else none
    else
      fM_call_b195 s x2
def fM_call_h97 : Nat → ev_M → Int32 → Int32 → Int32 → Option (ev_M × Int32)
  | 0, _, _, _, _ => none
  | n + 1, s, x1, x2, x3 =>
    bd1 (fM_argumentsOf s x1) fun v5 =>
    if x3 < v5 then
      fM_call_h109 (fM_call_h97 n) 1048576 s x1 x2 x3 (cI 24)
    else
      bd1 (fM_reads s x1) fun v6 =>
      if v6 = 0 then
        fM_call_b195 s x2
      else
        bd1 (fM_note s ((s.1 549 13) >>> ((cI 8) &&& 31))) fun s7 =>
        bd1 (fM_note s7 (s7.1 549 13)) fun s8 =>
        fM_call_h171 1048576 s8 x2 (cI 0)
def fM_call_b78 (s : ev_M) (x1 : Int32) : Option (ev_M × Int32) :=
  bd2 (fM_act s) fun s9 v10 =>
  if (s9.1 549 15) = 0 then
    bd1 (fM_note s9 x1) fun s11 =>
    fM_call_h97 1048576 s11 x1 v10 (cI 0)
  else
    some (s9, v10)
def fM_call_h52 : Nat → ev_M → Int32 → Int32 → Option (ev_M × Int32)
  | 0, _, _, _ => none
  | n + 1, s, x1, x2 =>
    if x2 < (s.1 549 13) then
      if inb x2 4096 = true then
      if inb x2 4096 = true then
      ltM (wI s 554 (ix x2) (i2b (s.1 550 (ix x2)))) fun s12 =>
      (fM_call_h52 n) s12 x1 (x2 + cI 1)
      else none
      else none
    else
      fM_call_b78 s x1
def fM_call (s : ev_M) (a1 : Int32) : Option (ev_M × Int32) :=
  ltM (wI s 549 0 (cI 0)) fun s13 =>
  if (s13.1 549 5) = 0 then
    ltM (wI s13 549 16 a1) fun s14 =>
    ltM (wI s14 549 14 (cI 0)) fun s15 =>
    ltM (wI s15 549 15 (cI 0)) fun s16 =>
    bd1 (fM_reads s16 a1) fun v17 =>
    if v17 = 0 then
      fM_call_b78 s16 a1
    else
      ltM (wI s16 549 13 (s16.1 549 2)) fun s18 =>
      ltM (wI s18 549 2 (cI 0)) fun s19 =>
      fM_call_h52 1048576 s19 a1 (cI 0)
  else
    some (s13, (cI (-105)))
def fM_call1 (s : ev_M) (a1 : Int32) (a2 : Int32) : Option (ev_M × Int32) :=
  ltM (wI s 553 (ix (cI 0)) a2) fun s1 =>
  bd2 (fM_call s1 a1) fun s2 v3 =>
  some (s2, v3)
def fM_call2 (s : ev_M) (a1 : Int32) (a2 : Int32) (a3 : Int32) : Option (ev_M × Int32) :=
  ltM (wI s 553 (ix (cI 1)) a3) fun s1 =>
  bd2 (fM_call1 s1 a1 a2) fun s2 v3 =>
  some (s2, v3)
def fM_call3 (s : ev_M) (a1 : Int32) (a2 : Int32) (a3 : Int32) (a4 : Int32) : Option (ev_M × Int32) :=
  ltM (wI s 553 (ix (cI 2)) a4) fun s1 =>
  bd2 (fM_call2 s1 a1 a2 a3) fun s2 v3 =>
  some (s2, v3)
def fM_wish_b14 (s : ev_M) (y1 : Int32) (y2 : Int32) (y3 : Int32) (y4 : Int32) : Option (ev_M × Int32) :=
  bd2 (fM_call3 s y1 y2 y3 y4) fun s1 v2 =>
  some (s1, v2)
def fM_wish (s : ev_M) (a1 : Int32) (a2 : Int32) (a3 : Int32) : Option (ev_M × Int32) :=
  if a3 = 0 then
    fM_wish_b14 s (cI 39) a1 a2 (cI 0)
  else
    fM_wish_b14 s (cI 39) a1 a2 (cI 1)
def fLog_stages (s : ev_M) (a1 : Int32) (a2 : Int32) (a3 : Int32) (a4 : Int32) (a5 : Int32) (a6 : Int32) (a7 : Int32) : Option (ev_M × Int32) :=
  ltM (wI s 9 14 a1) fun s1 =>
  ltM (wI s1 14 (ix (cI 0)) a2) fun s2 =>
  ltM (wI s2 14 (ix (cI 1)) a3) fun s3 =>
  ltM (wI s3 14 (ix (cI 2)) a4) fun s4 =>
  ltM (wI s4 14 (ix (cI 3)) a5) fun s5 =>
  ltM (wI s5 14 (ix (cI 4)) a6) fun s6 =>
  ltM (wI s6 14 (ix (cI 5)) a7) fun s7 =>
  if (s7.1 9 9) = 0 then
    some (s7, (cI 1))
  else
    some (s7, (cI 0))
def fLog_blocksFor (s : ev_M) (a0 : Int32) : Option Int32 :=
  if (cI 248) = 0 then none else
  some (((a0 + (cI 248)) - (cI 1)) / (cI 248))
def fLog_append (s : ev_M) (a1 : Int32) : Option ev_M :=
  if (s.1 9 6) < (cI 37200) then
    ltM (wI s 9 6 ((s.1 9 6) + (cI 1))) fun s1 =>
    if inb (s.1 9 6) 37200 = true then
    ltM (wI s1 13 (ix (s.1 9 6)) (i2b (i2b a1))) fun s2 =>
    some s2
    else none
  else
    some s
def fLog_readsTape_b16 (s : ev_M) : Option Int32 :=
  some (cI 1)
def fLog_readsTape (s : ev_M) (a0 : Int32) : Option Int32 :=
  if a0 = (cI 1) then
    fLog_readsTape_b16 s
  else
    if a0 = (cI 4) then
      fLog_readsTape_b16 s
    else
      if a0 = (cI 31) then
        fLog_readsTape_b16 s
      else
        some (cI 0)
def fLog_appendRecord_h25 (k10 : ev_M → Int32 → Option ev_M) : Nat → ev_M → Int32 → Int32 → Option ev_M
  | 0, _, _, _ => none
  | n + 1, s, x1, x2 =>
    if x2 < 0 then
      k10 s (x1 + cI 1)
    else
      if inb x1 6 = true then
      bd1 (fLog_append s ((s.1 14 (ix x1)) >>> (x2 &&& 31))) fun s1 =>
      (fLog_appendRecord_h25 k10 n) s1 x1 (x2 + cI (-8))
      else none
def fLog_appendRecord_h91 : Nat → ev_M → Int32 → Option ev_M
  | 0, _, _ => none
  | n + 1, s, x1 =>
    if x1 < (s.1 1 1) then
      if inb x1 4096 = true then
      bd1 (fLog_append s (s.1 2 (ix x1))) fun s2 =>
      (fLog_appendRecord_h91 n) s2 (x1 + cI 1)
      else none
    else
      some s
def fLog_appendRecord_h10 : Nat → ev_M → Int32 → Option ev_M
  | 0, _, _ => none
  | n + 1, s, x1 =>
    if inb (s.1 9 14) 41 = true then
    if x1 < (s.1 1003 (ix (s.1 9 14))) then
      fLog_appendRecord_h25 (fLog_appendRecord_h10 n) 1048576 s x1 (cI 24)
    else
      bd1 (fLog_readsTape s (s.1 9 14)) fun v3 =>
      if v3 = 0 then
        some s
      else
        bd1 (fLog_append s ((s.1 1 1) >>> ((cI 8) &&& 31))) fun s4 =>
        bd1 (fLog_append s4 (s4.1 1 1)) fun s5 =>
        fLog_appendRecord_h91 1048576 s5 (cI 0)
    else none
def fLog_appendRecord (s : ev_M) : Option ev_M :=
  bd1 (fLog_append s (s.1 9 14)) fun s6 =>
  fLog_appendRecord_h10 1048576 s6 (cI 0)
def fLog_admits_b69 (s : ev_M) (y0 : Int32) (y1 : Int32) : Option (ev_M × Int32) :=
  ltI (y0 + y1) fun v1 =>
  bd1 (fLog_blocksFor s ((s.1 9 6) + v1)) fun v2 =>
  if v2 ≤ ((cI 150) - (s.1 9 4)) then
    bd1 (fLog_appendRecord s) fun s3 =>
    ltM (wI s3 9 7 ((s3.1 9 7) + (cI 1))) fun s4 =>
    some (s4, (cI 1))
  else
    some (s, (cI 0))
def fLog_admits (s : ev_M) : Option (ev_M × Int32) :=
  if (s.1 9 12) = 0 then
    bd1 (fPH_outside s (s.1 9 14) (cI 1) (cI 40)) fun v5 =>
    if v5 = 0 then
      if inb (s.1 9 14) 41 = true then
      bd1 (fLog_readsTape s (s.1 9 14)) fun v6 =>
      if v6 = 0 then
        fLog_admits_b69 s ((cI 1) + ((cI 4) * (s.1 1003 (ix (s.1 9 14))))) (cI 0)
      else
        fLog_admits_b69 s ((cI 1) + ((cI 4) * (s.1 1003 (ix (s.1 9 14))))) ((cI 2) + (s.1 1 1))
      else none
    else
      some (s, (cI 0))
  else
    ltM (wI s 9 13 ((s.1 9 13) + (cI 1))) fun s7 =>
    some (s7, (cI 1))
def fChron_setWish_b60 (s : ev_M) (x1 : Int32) (x4 : Int32) (y1 : Int32) (y2 : Int32) : Option (ev_M × Int32) :=
  if inb y1 34 = true then
  ltM (wI s 28 (ix y1) y2) fun s1 =>
  if inb x1 34 = true then
  if (s1.1 28 (ix x1)) = x4 then
    some (s1, (cI 0))
  else
    some (s1, (cI 1))
  else none
  else none
def fChron_setWish (s : ev_M) (a1 : Int32) (a2 : Int32) (a3 : Int32) : Option (ev_M × Int32) :=
  bd1 (fPH_outside s a2 (cI 0) (cI 8)) fun v2 =>
  if v2 = 0 then
    bd2 (fLog_admits s) fun s3 v4 =>
    if v4 = 0 then
      some (s3, (cI (-104)))
    else
      if inb a1 34 = true then
      ltI (s3.1 28 (ix a1)) fun v5 =>
      if a3 = 0 then
        fChron_setWish_b60 s3 a1 v5 a1 (v5 &&& (((cI 1) <<< (a2 &&& 31)) ^^^ (cI (-1))))
      else
        fChron_setWish_b60 s3 a1 v5 a1 (v5 ||| ((cI 1) <<< (a2 &&& 31)))
      else none
  else
    some (s, (cI (-102)))
def fTape_byteAt_1 (s : ev_M) (a1 : Int32) : Option Int32 :=
  if a1 < 0 then
    some (cI (-1))
  else
    if a1 < (s.1 1 1) then
      if inb a1 4096 = true then
      some ((s.1 2 (ix a1)) &&& (cI 255))
      else none
    else
      some (cI (-1))
def fTape_readsNumber_1_b69 (s : ev_M) (x1 : Int32) (x2 : Int32) : Option (ev_M × Int32) :=
  if x2 = 0 then
    some (s, (cI 0))
  else
    if (s.1 1 4) < (cI 4) then
      ltM (wI s 1 4 ((s.1 1 4) + (cI 1))) fun s1 =>
      if inb (s.1 1 4) 4 = true then
      ltM (wI s1 3 (ix (s.1 1 4)) x1) fun s2 =>
      some (s2, (cI 1))
      else none
    else
      some (s, (cI 0))
def fTape_readsNumber_1_h4 : Nat → ev_M → Int32 → Int32 → Option (ev_M × Int32)
  | 0, _, _, _ => none
  | n + 1, s, x1, x2 =>
    if x2 < (cI 6) then
      bd1 (fTape_byteAt_1 s (s.1 1 2)) fun v3 =>
      if v3 < (cI 48) then
        fTape_readsNumber_1_b69 s x1 x2
      else
        bd1 (fTape_byteAt_1 s (s.1 1 2)) fun v4 =>
        if v4 ≤ (cI 57) then
          bd1 (fTape_byteAt_1 s (s.1 1 2)) fun v5 =>
          ltI (((x1 * (cI 10)) + v5) - (cI 48)) fun v6 =>
          ltM (wI s 1 2 ((s.1 1 2) + (cI 1))) fun s7 =>
          (fTape_readsNumber_1_h4 n) s7 v6 (x2 + cI 1)
        else
          fTape_readsNumber_1_b69 s x1 x2
    else
      fTape_readsNumber_1_b69 s x1 x2
def fTape_readsNumber_1 (s : ev_M) : Option (ev_M × Int32) :=
  fTape_readsNumber_1_h4 1048576 s (cI 0) (cI 0)
def fTape_readsName_1_b83 (s : ev_M) (x1 : Int32) : Option (ev_M × Int32) :=
  if x1 ≤ 0 then
    some (s, (cI 0))
  else
    some (s, (cI 1))
def fTape_readsName_1_h7 : Nat → ev_M → Int32 → Option (ev_M × Int32)
  | 0, _, _ => none
  | n + 1, s, x1 =>
    if x1 < (cI 10) then
      bd1 (fTape_byteAt_1 s (s.1 1 2)) fun v1 =>
      if v1 < (cI 65) then
        fTape_readsName_1_b83 s x1
      else
        bd1 (fTape_byteAt_1 s (s.1 1 2)) fun v2 =>
        if v2 ≤ (cI 90) then
          bd1 (fTape_byteAt_1 s (s.1 1 2)) fun v3 =>
          ltM (wL s 1 5 (((((s.2.1 1 5) * (cL 27)) + (Int32.toInt64 v3)) - (cL 65)) + (cL 1))) fun s4 =>
          ltM (wI s4 1 2 ((s4.1 1 2) + (cI 1))) fun s5 =>
          (fTape_readsName_1_h7 n) s5 (x1 + cI 1)
        else
          fTape_readsName_1_b83 s x1
    else
      fTape_readsName_1_b83 s x1
def fTape_readsName_1 (s : ev_M) : Option (ev_M × Int32) :=
  ltM (wL s 1 5 (cL 0)) fun s6 =>
  fTape_readsName_1_h7 1048576 s6 (cI 0)
def fTape_reads_1 (s : ev_M) (a1 : Int32) : Option (ev_M × Int32) :=
  if a1 = (cI 35) then
    bd2 (fTape_readsNumber_1 s) fun s1 v2 =>
    if bz v2 = true then some (s1, v2) else none
  else
    if a1 = (cI 64) then
      bd2 (fTape_readsName_1 s) fun s3 v4 =>
      if bz v4 = true then some (s3, v4) else none
    else
      bd1 (fTape_byteAt_1 s (s.1 1 2)) fun v5 =>
      if v5 = a1 then
        ltM (wI s 1 2 ((s.1 1 2) + (cI 1))) fun s6 =>
        some (s6, (cI 1))
      else
        some (s, (cI 0))
def fTape_readsEntry_1_1010_h56 : Nat → ev_M → Int32 → Int32 → Option (ev_M × Int32)
  | 0, _, _, _ => none
  | n + 1, s, x2, x3 =>
    bd1 (fSlen 1010) fun v1 =>
    if x3 < v1 then
      bd1 (fSat 1010 x3) fun v2 =>
      bd2 (fTape_reads_1 s v2) fun s3 v4 =>
      if v4 = 0 then
        some (s3, (cI (-1)))
      else
        if v2 = (cI 59) then
          some (s3, x2)
        else
          (fTape_readsEntry_1_1010_h56 n) s3 x2 (x3 + cI 1)
    else
      some (s, (cI (-1)))
def fTape_readsEntry_1_1010_b36 (s : ev_M) (x2 : Int32) (y0 : Int32) : Option (ev_M × Int32) :=
  if y0 < 0 then
    some (s, (cI (-1)))
  else
    ltM (wI s 1 2 ((s.1 1 2) + (cI 1))) fun s5 =>
    fTape_readsEntry_1_1010_h56 1048576 s5 x2 (y0 + cI 1)
def fTape_readsEntry_1_1010_b35 (s : ev_M) (x2 : Int32) : Option (ev_M × Int32) :=
  fTape_readsEntry_1_1010_b36 s x2 (cI (-1))
def fTape_readsEntry_1_1010 (s : ev_M) : Option (ev_M × Int32) :=
  ltM (wI s 1 4 (cI 0)) fun s6 =>
  bd1 (fTape_byteAt_1 s6 (s6.1 1 2)) fun v7 =>
  if v7 < (cI 65) then
    fTape_readsEntry_1_1010_b35 s6 v7
  else
    if v7 ≤ (cI 90) then
      bd1 (fSix 1010 (i2c v7)) fun v8 =>
      fTape_readsEntry_1_1010_b36 s6 v7 v8
    else
      fTape_readsEntry_1_1010_b35 s6 v7
def fBook_placeOf_h2 (s : ev_M) : Nat → Int32 → Int32 → Option Int32
  | 0, _, _ => none
  | n + 1, x1, x2 =>
    if x2 < (s.1 30 2) then
      if inb x2 12 = true then
      if (s.1 31 (ix x2)) = x1 then
        some x2
      else
        (fBook_placeOf_h2 s n) x1 (x2 + cI 1)
      else none
    else
      some (cI (-1))
def fBook_placeOf (s : ev_M) (a1 : Int32) : Option Int32 :=
  fBook_placeOf_h2 s 1048576 a1 (cI 0)
def fBook_addsPlace (s : ev_M) (a1 : Int32) : Option (ev_M × Int32) :=
  bd1 (fPH_outside s a1 (cI 1) (cI 99999)) fun v1 =>
  if v1 = 0 then
    bd1 (fBook_placeOf s a1) fun v2 =>
    if v2 = (cI (-1)) then
      if (s.1 30 2) < (cI 12) then
        ltM (wI s 30 2 ((s.1 30 2) + (cI 1))) fun s3 =>
        if inb (s.1 30 2) 12 = true then
        ltM (wI s3 31 (ix (s.1 30 2)) a1) fun s4 =>
        some (s4, (cI 1))
        else none
      else
        some (s, (cI 0))
    else
      some (s, (cI 0))
  else
    some (s, (cI 0))
def fBook_streetOf_b40 (s : ev_M) (k3 : Int32 → Int64 → Int32 → Option Int32) (x1 : Int32) (x2 : Int64) (x4 : Int32) : Option Int32 :=
  k3 x1 x2 (x4 + cI 1)
def fBook_streetOf_h3 (s : ev_M) : Nat → Int32 → Int64 → Int32 → Option Int32
  | 0, _, _, _ => none
  | n + 1, x1, x2, x4 =>
    if x4 < (s.1 30 4) then
      if inb x4 30 = true then
      if (s.1 (33 + (ix (cI 3))) (ix x4)) = x1 then
        if inb x4 30 = true then
        if (lg_cmp (s.2.1 37 (ix x4)) x2) = 0 then
          some x4
        else
          fBook_streetOf_b40 s (fBook_streetOf_h3 s n) x1 x2 x4
        else none
      else
        fBook_streetOf_b40 s (fBook_streetOf_h3 s n) x1 x2 x4
      else none
    else
      some (cI (-1))
def fBook_streetOf (s : ev_M) (a1 : Int32) (a2 : Int64) : Option Int32 :=
  fBook_streetOf_h3 s 1048576 a1 a2 (cI 0)
def fBook_addsStreet_1 (s : ev_M) (a1 : Int32) : Option (ev_M × Int32) :=
  ltI (s.1 3 (ix (cI 1))) fun v1 =>
  ltI (s.1 3 (ix (cI 2))) fun v2 =>
  ltI (s.1 3 (ix (cI 3))) fun v3 =>
  bd1 (fBook_streetOf s a1 (s.2.1 1 5)) fun v4 =>
  if v4 = (cI (-1)) then
    if (s.1 30 4) < (cI 30) then
      bd1 (fPH_outside s v1 (cI 0) (cI 999)) fun v5 =>
      if v5 = 0 then
        bd1 (fPH_outside s v2 (cI 0) (cI 999)) fun v6 =>
        if v6 = 0 then
          bd1 (fPH_outside s v3 (cI 0) (cI 3)) fun v7 =>
          if v7 = 0 then
            if inb (s.1 30 4) 30 = true then
            ltM (wI s (33 + (ix (cI 3))) (ix (s.1 30 4)) a1) fun s8 =>
            if inb (s8.1 30 4) 30 = true then
            ltM (wI s8 (33 + (ix (cI 0))) (ix (s8.1 30 4)) v1) fun s9 =>
            if inb (s9.1 30 4) 30 = true then
            ltM (wI s9 (33 + (ix (cI 1))) (ix (s9.1 30 4)) v2) fun s10 =>
            if inb (s10.1 30 4) 30 = true then
            ltM (wI s10 (33 + (ix (cI 2))) (ix (s10.1 30 4)) v3) fun s11 =>
            ltM (wI s11 30 4 ((s11.1 30 4) + (cI 1))) fun s12 =>
            if inb (s11.1 30 4) 30 = true then
            ltM (wL s12 37 (ix (s11.1 30 4)) (s12.2.1 1 5)) fun s13 =>
            some (s13, (cI 1))
            else none
            else none
            else none
            else none
            else none
          else
            some (s, (cI 0))
        else
          some (s, (cI 0))
      else
        some (s, (cI 0))
    else
      some (s, (cI 0))
  else
    some (s, (cI 0))
def fBook_isOnSide_b13 (s : ev_M) : Option Int32 :=
  some (cI 1)
def fBook_isOnSide (s : ev_M) (a0 : Int32) (a1 : Int32) : Option Int32 :=
  if a1 = 0 then
    fBook_isOnSide_b13 s
  else
    if (cI 2) = 0 then none else
    if (irem a0 (cI 2)) = ((cI 2) - a1) then
      fBook_isOnSide_b13 s
    else
      some (cI 0)
def fMath_max (s : ev_M) (a0 : Int32) (a1 : Int32) : Option Int32 :=
  if a0 < a1 then
    some a1
  else
    some a0
def fMath_min (s : ev_M) (a0 : Int32) (a1 : Int32) : Option Int32 :=
  if a0 ≤ a1 then
    some a0
  else
    some a1
def fBook_sharesHouse_b76 (s : ev_M) (k33 : Int32 → Int32 → Int32 → Int32 → Int32 → Option Int32) (x1 : Int32) (x2 : Int32) (x5 : Int32) (x6 : Int32) (x7 : Int32) : Option Int32 :=
  k33 x1 x2 x5 x6 (x7 + cI 1)
def fBook_sharesHouse_h33 (s : ev_M) : Nat → Int32 → Int32 → Int32 → Int32 → Int32 → Option Int32
  | 0, _, _, _, _, _ => none
  | n + 1, x1, x2, x5, x6, x7 =>
    if x7 ≤ x6 then
      if x7 ≤ (x5 + (cI 1)) then
        bd1 (fBook_isOnSide s x7 x2) fun v1 =>
        if v1 = 0 then
          fBook_sharesHouse_b76 s (fBook_sharesHouse_h33 s n) x1 x2 x5 x6 x7
        else
          if inb x1 60 = true then
          bd1 (fBook_isOnSide s x7 (s.1 (39 + (ix (cI 1))) (ix x1))) fun v2 =>
          if v2 = 0 then
            fBook_sharesHouse_b76 s (fBook_sharesHouse_h33 s n) x1 x2 x5 x6 x7
          else
            some (cI 1)
          else none
      else
        some (cI 0)
    else
      some (cI 0)
def fBook_sharesHouse (s : ev_M) (a1 : Int32) (a2 : Int32) (a3 : Int32) (a4 : Int32) : Option Int32 :=
  if inb a1 60 = true then
  bd1 (fMath_max s a3 (s.1 (39 + (ix (cI 2))) (ix a1))) fun v3 =>
  if inb a1 60 = true then
  bd1 (fMath_min s a4 (s.1 (39 + (ix (cI 3))) (ix a1))) fun v4 =>
  fBook_sharesHouse_h33 s 1048576 a1 a2 v3 v4 v3
  else none
  else none
def fBook_addsRange_1_b109 (k71 : ev_M → Int32 → Int32 → Int32 → Int32 → Int32 → Option (ev_M × Int32)) (s : ev_M) (x1 : Int32) (x3 : Int32) (x4 : Int32) (x5 : Int32) (x6 : Int32) : Option (ev_M × Int32) :=
  k71 s x1 x3 x4 x5 (x6 + cI 1)
def fBook_addsRange_1_h71 : Nat → ev_M → Int32 → Int32 → Int32 → Int32 → Int32 → Option (ev_M × Int32)
  | 0, _, _, _, _, _, _ => none
  | n + 1, s, x1, x3, x4, x5, x6 =>
    if x6 < (s.1 30 7) then
      if inb x6 60 = true then
      if (s.1 (39 + (ix (cI 0))) (ix x6)) = x1 then
        bd1 (fBook_sharesHouse s x6 x3 x4 x5) fun v1 =>
        if v1 = 0 then
          fBook_addsRange_1_b109 (fBook_addsRange_1_h71 n) s x1 x3 x4 x5 x6
        else
          some (s, (cI 0))
      else
        fBook_addsRange_1_b109 (fBook_addsRange_1_h71 n) s x1 x3 x4 x5 x6
      else none
    else
      if inb (s.1 30 7) 60 = true then
      ltM (wI s (39 + (ix (cI 0))) (ix (s.1 30 7)) x1) fun s2 =>
      if inb (s2.1 30 7) 60 = true then
      ltM (wI s2 (39 + (ix (cI 1))) (ix (s2.1 30 7)) x3) fun s3 =>
      if inb (s3.1 30 7) 60 = true then
      ltM (wI s3 (39 + (ix (cI 2))) (ix (s3.1 30 7)) x4) fun s4 =>
      ltM (wI s4 30 7 ((s4.1 30 7) + (cI 1))) fun s5 =>
      if inb (s4.1 30 7) 60 = true then
      ltM (wI s5 (39 + (ix (cI 3))) (ix (s4.1 30 7)) x5) fun s6 =>
      some (s6, (cI 1))
      else none
      else none
      else none
      else none
def fBook_addsRange_1 (s : ev_M) (a1 : Int32) : Option (ev_M × Int32) :=
  ltI (s.1 3 (ix (cI 1))) fun v7 =>
  ltI (s.1 3 (ix (cI 2))) fun v8 =>
  ltI (s.1 3 (ix (cI 3))) fun v9 =>
  bd1 (fPH_outside s v7 (cI 0) (cI 2)) fun v10 =>
  if v10 = 0 then
    bd1 (fPH_outside s v8 (cI 1) (cI 999)) fun v11 =>
    if v11 = 0 then
      bd1 (fPH_outside s v9 v8 (cI 999)) fun v12 =>
      if v12 = 0 then
        if (s.1 30 7) < (cI 60) then
          fBook_addsRange_1_h71 1048576 s a1 v7 v8 v9 (cI 0)
        else
          some (s, (cI 0))
      else
        some (s, (cI 0))
    else
      some (s, (cI 0))
  else
    some (s, (cI 0))
def fBook_hasHouse_b74 (s : ev_M) (k2 : Int32 → Int32 → Int32 → Option Int32) (x1 : Int32) (x2 : Int32) (x3 : Int32) : Option Int32 :=
  k2 x1 x2 (x3 + cI 1)
def fBook_hasHouse_b50 (s : ev_M) (k2 : Int32 → Int32 → Int32 → Option Int32) (x1 : Int32) (x2 : Int32) (x3 : Int32) (y0 : Int32) : Option Int32 :=
  if y0 = 0 then
    fBook_hasHouse_b74 s k2 x1 x2 x3
  else
    if inb x3 60 = true then
    bd1 (fBook_isOnSide s x2 (s.1 (39 + (ix (cI 1))) (ix x3))) fun v1 =>
    if v1 = 0 then
      fBook_hasHouse_b74 s k2 x1 x2 x3
    else
      some (cI 1)
    else none
def fBook_hasHouse_b49 (s : ev_M) (k2 : Int32 → Int32 → Int32 → Option Int32) (x1 : Int32) (x2 : Int32) (x3 : Int32) : Option Int32 :=
  fBook_hasHouse_b50 s k2 x1 x2 x3 (cI 0)
def fBook_hasHouse_h2 (s : ev_M) : Nat → Int32 → Int32 → Int32 → Option Int32
  | 0, _, _, _ => none
  | n + 1, x1, x2, x3 =>
    if x3 < (s.1 30 7) then
      if inb x3 60 = true then
      if (s.1 (39 + (ix (cI 0))) (ix x3)) = x1 then
        if inb x3 60 = true then
        if inb x3 60 = true then
        bd1 (fPH_outside s x2 (s.1 (39 + (ix (cI 2))) (ix x3)) (s.1 (39 + (ix (cI 3))) (ix x3))) fun v2 =>
        if v2 = 0 then
          fBook_hasHouse_b50 s (fBook_hasHouse_h2 s n) x1 x2 x3 (cI 1)
        else
          fBook_hasHouse_b49 s (fBook_hasHouse_h2 s n) x1 x2 x3
        else none
        else none
      else
        fBook_hasHouse_b49 s (fBook_hasHouse_h2 s n) x1 x2 x3
      else none
    else
      some (cI 0)
def fBook_hasHouse (s : ev_M) (a1 : Int32) (a2 : Int32) : Option Int32 :=
  fBook_hasHouse_h2 s 1048576 a1 a2 (cI 0)
def fBook_pointOf_b36 (s : ev_M) (k2 : Int32 → Int32 → Int32 → Option Int32) (x1 : Int32) (x2 : Int32) (x3 : Int32) : Option Int32 :=
  k2 x1 x2 (x3 + cI 1)
def fBook_pointOf_h2 (s : ev_M) : Nat → Int32 → Int32 → Int32 → Option Int32
  | 0, _, _, _ => none
  | n + 1, x1, x2, x3 =>
    if x3 < (s.1 30 9) then
      if inb x3 120 = true then
      if (s.1 (44 + (ix (cI 0))) (ix x3)) = x1 then
        if inb x3 120 = true then
        if (s.1 (44 + (ix (cI 1))) (ix x3)) = x2 then
          some x3
        else
          fBook_pointOf_b36 s (fBook_pointOf_h2 s n) x1 x2 x3
        else none
      else
        fBook_pointOf_b36 s (fBook_pointOf_h2 s n) x1 x2 x3
      else none
    else
      some (cI (-1))
def fBook_pointOf (s : ev_M) (a1 : Int32) (a2 : Int32) : Option Int32 :=
  fBook_pointOf_h2 s 1048576 a1 a2 (cI 0)
def fBook_addsPoint (s : ev_M) (a1 : Int32) (a2 : Int32) : Option (ev_M × Int32) :=
  bd1 (fBook_hasHouse s a1 a2) fun v1 =>
  if v1 = 0 then
    some (s, (cI 0))
  else
    bd1 (fBook_pointOf s a1 a2) fun v2 =>
    if v2 = (cI (-1)) then
      if (s.1 30 9) < (cI 120) then
        if inb (s.1 30 9) 120 = true then
        ltM (wI s (44 + (ix (cI 0))) (ix (s.1 30 9)) a1) fun s3 =>
        ltM (wI s3 30 9 ((s3.1 30 9) + (cI 1))) fun s4 =>
        if inb (s3.1 30 9) 120 = true then
        ltM (wI s4 (44 + (ix (cI 1))) (ix (s3.1 30 9)) a2) fun s5 =>
        some (s5, (cI 1))
        else none
        else none
      else
        some (s, (cI 0))
    else
      some (s, (cI 0))
def fBook_adds_1 (s : ev_M) (a1 : Int32) : Option (ev_M × Int32) :=
  if a1 = (cI 80) then
    bd2 (fBook_addsPlace s (s.1 3 (ix (cI 0)))) fun s1 v2 =>
    if bz v2 = true then some (s1, v2) else none
  else
    bd1 (fBook_placeOf s (s.1 3 (ix (cI 0)))) fun v3 =>
    if v3 = (cI (-1)) then
      some (s, (cI 0))
    else
      if a1 = (cI 83) then
        bd2 (fBook_addsStreet_1 s v3) fun s4 v5 =>
        if bz v5 = true then some (s4, v5) else none
      else
        bd1 (fBook_streetOf s v3 (s.2.1 1 5)) fun v6 =>
        if v6 = (cI (-1)) then
          some (s, (cI 0))
        else
          if a1 = (cI 82) then
            bd2 (fBook_addsRange_1 s v6) fun s7 v8 =>
            if bz v8 = true then some (s7, v8) else none
          else
            bd2 (fBook_addsPoint s v6 (s.1 3 (ix (cI 1)))) fun s9 v10 =>
            if bz v10 = true then some (s9, v10) else none
def fBook_keepFirst (s : ev_M) (a1 : Int32) (a2 : Int32) (a3 : Int32) (a4 : Int32) : Option ev_M :=
  ltM (wI s 30 2 a1) fun s1 =>
  ltM (wI s1 30 4 a2) fun s2 =>
  ltM (wI s2 30 7 a3) fun s3 =>
  ltM (wI s3 30 9 a4) fun s4 =>
  some s4
def fTape_hasMore_1 (s : ev_M) : Option Int32 :=
  if (s.1 1 2) < (s.1 1 1) then
    some (cI 1)
  else
    some (cI 0)
def fBook_readText_1_b102 (k33 : ev_M → Int32 → Int32 → Int32 → Int32 → Int32 → Int32 → Option (ev_M × Int32)) (s : ev_M) (x2 : Int32) (x3 : Int32) (x4 : Int32) (x5 : Int32) (x6 : Int32) (x7 : Int32) : Option (ev_M × Int32) :=
  k33 s x2 x3 x4 x5 x6 (x7 + cI 1)
def fBook_readText_1_b59 (k33 : ev_M → Int32 → Int32 → Int32 → Int32 → Int32 → Int32 → Option (ev_M × Int32)) (s : ev_M) (x2 : Int32) (x3 : Int32) (x4 : Int32) (x5 : Int32) (x6 : Int32) (x7 : Int32) : Option (ev_M × Int32) :=
  ltI (s.1 1 2) fun v1 =>
  bd2 (fTape_readsEntry_1_1010 s) fun s2 v3 =>
  if v3 = (cI (-1)) then
    ltI (s2.1 1 2) fun v4 =>
    fBook_readText_1_b102 k33 s2 x2 x3 x4 x5 v4 x7
  else
    bd2 (fBook_adds_1 s2 v3) fun s5 v6 =>
    if v6 = 0 then
      fBook_readText_1_b102 k33 s5 x2 x3 x4 x5 v1 x7
    else
      fBook_readText_1_b102 k33 s5 x2 x3 x4 x5 x6 x7
def fBook_readText_1_b127 (s : ev_M) (x2 : Int32) (x3 : Int32) (x4 : Int32) (x5 : Int32) (x6 : Int32) : Option (ev_M × Int32) :=
  bd1 (fBook_keepFirst s x2 x3 x4 x5) fun s7 =>
  if x6 = (cI (-1)) then
    some (s7, (cI (-104)))
  else
    some (s7, ((cI (-1000)) - x6))
def fBook_readText_1_b108 (s : ev_M) (x2 : Int32) (x3 : Int32) (x4 : Int32) (x5 : Int32) (x6 : Int32) (x7 : Int32) : Option (ev_M × Int32) :=
  if x6 = (cI (-1)) then
    bd2 (fLog_admits s) fun s8 v9 =>
    if v9 = 0 then
      fBook_readText_1_b127 s8 x2 x3 x4 x5 x6
    else
      some (s8, x7)
  else
    fBook_readText_1_b127 s x2 x3 x4 x5 x6
def fBook_readText_1_h33 : Nat → ev_M → Int32 → Int32 → Int32 → Int32 → Int32 → Int32 → Option (ev_M × Int32)
  | 0, _, _, _, _, _, _, _ => none
  | n + 1, s, x2, x3, x4, x5, x6, x7 =>
    if x6 = (cI (-1)) then
      if x7 < (cI 4096) then
        if x7 = 0 then
          fBook_readText_1_b59 (fBook_readText_1_h33 n) s x2 x3 x4 x5 x6 x7
        else
          bd1 (fTape_hasMore_1 s) fun v10 =>
          if v10 = 0 then
            fBook_readText_1_b108 s x2 x3 x4 x5 x6 x7
          else
            fBook_readText_1_b59 (fBook_readText_1_h33 n) s x2 x3 x4 x5 x6 x7
      else
        fBook_readText_1_b108 s x2 x3 x4 x5 x6 x7
    else
      fBook_readText_1_b108 s x2 x3 x4 x5 x6 x7
def fBook_readText_1 (s : ev_M) : Option (ev_M × Int32) :=
  ltI (s.1 30 2) fun v11 =>
  ltI (s.1 30 4) fun v12 =>
  ltI (s.1 30 7) fun v13 =>
  ltI (s.1 30 9) fun v14 =>
  ltM (wI s 1 2 (cI 0)) fun s15 =>
  fBook_readText_1_h33 1048576 s15 v11 v12 v13 v14 (cI (-1)) (cI 0)
def fBook_hasPoint (s : ev_M) (a1 : Int32) : Option Int32 :=
  bd1 (fPH_outside s a1 (cI 0) ((s.1 30 9) - (cI 1))) fun v1 =>
  if v1 = 0 then
    some (cI 1)
  else
    some (cI 0)
def fChron_today (s : ev_M) : Option Int32 :=
  if (cI 1440) = 0 then none else
  some ((s.1 15 1) / (cI 1440))
def fBook_addOrder (s : ev_M) (a1 : Int32) (a2 : Int32) (a3 : Int32) (a4 : Int32) : Option (ev_M × Int32) :=
  bd1 (fBook_hasPoint s a1) fun v1 =>
  if v1 = 0 then
    some (s, (cI (-101)))
  else
    bd1 (fPH_outside s a2 (cI 0) (cI 99)) fun v2 =>
    if v2 = 0 then
      bd1 (fChron_today s) fun v3 =>
      bd1 (fPH_outside s a4 (v3 + (cI 1)) (cI 100000)) fun v4 =>
      if v4 = 0 then
        if a1 = a3 then
          some (s, (cI (-102)))
        else
          if (s.1 30 11) < (cI 60) then
            bd2 (fLog_admits s) fun s5 v6 =>
            if v6 = 0 then
              some (s5, (cI (-104)))
            else
              if inb (s5.1 30 11) 60 = true then
              ltM (wI s5 (47 + (ix (cI 0))) (ix (s5.1 30 11)) a1) fun s7 =>
              if inb (s7.1 30 11) 60 = true then
              ltM (wI s7 (47 + (ix (cI 1))) (ix (s7.1 30 11)) a2) fun s8 =>
              if inb (s8.1 30 11) 60 = true then
              ltM (wI s8 (47 + (ix (cI 2))) (ix (s8.1 30 11)) a3) fun s9 =>
              if inb (s9.1 30 11) 60 = true then
              ltM (wI s9 (47 + (ix (cI 3))) (ix (s9.1 30 11)) a4) fun s10 =>
              ltM (wI s10 30 11 ((s10.1 30 11) + (cI 1))) fun s11 =>
              some (s11, (s10.1 30 11))
              else none
              else none
              else none
              else none
          else
            some (s, (cI (-104)))
      else
        some (s, (cI (-102)))
    else
      some (s, (cI (-102)))
def fBook_tellForwarding (s : ev_M) (a1 : Int32) (a2 : Int32) (a3 : Int32) (a4 : Int32) : Option (ev_M × Int32) :=
  bd1 (fBook_hasPoint s a3) fun v1 =>
  if v1 = 0 then
    some (s, (cI (-101)))
  else
    bd2 (fBook_addOrder s a1 a2 a3 a4) fun s2 v3 =>
    some (s2, v3)
def fBook_tellHold (s : ev_M) (a1 : Int32) (a2 : Int32) (a3 : Int32) : Option (ev_M × Int32) :=
  bd2 (fBook_addOrder s a1 a2 (cI (-1)) a3) fun s1 v2 =>
  some (s1, v2)
def fSheet_darken_1_b103 (k64 : ev_M → Int32 → Int32 → Int32 → Int32 → Option ev_M) (s : ev_M) (x2 : Int32) (x3 : Int32) (x4 : Int32) (x5 : Int32) (y1 : Int32) (y2 : Int32) : Option ev_M :=
  if inb y1 4096 = true then
  ltM (wI s 53 (ix y1) (i2b (i2b y2))) fun s1 =>
  k64 s1 x2 x3 x4 (x5 + cI 1)
  else none
def fSheet_darken_1_b102 (k64 : ev_M → Int32 → Int32 → Int32 → Int32 → Option ev_M) (s : ev_M) (x2 : Int32) (x3 : Int32) (x4 : Int32) (x5 : Int32) (y1 : Int32) : Option ev_M :=
  fSheet_darken_1_b103 k64 s x2 x3 x4 x5 y1 (cI 0)
def fSheet_darken_1_h64 : Nat → ev_M → Int32 → Int32 → Int32 → Int32 → Option ev_M
  | 0, _, _, _, _, _ => none
  | n + 1, s, x2, x3, x4, x5 =>
    if x5 < (s.1 1 1) then
      if x4 = 0 then
        fSheet_darken_1_b102 (fSheet_darken_1_h64 n) s x2 x3 x4 x5 x5
      else
        bd1 (fTape_byteAt_1 s x5) fun v2 =>
        if ((cI 2) * v2) < (x2 + x3) then
          fSheet_darken_1_b103 (fSheet_darken_1_h64 n) s x2 x3 x4 x5 x5 (cI 1)
        else
          fSheet_darken_1_b102 (fSheet_darken_1_h64 n) s x2 x3 x4 x5 x5
    else
      some s
def fSheet_darken_1_b59 (s : ev_M) (x2 : Int32) (x3 : Int32) (y0 : Int32) : Option ev_M :=
  fSheet_darken_1_h64 1048576 s x2 x3 y0 (cI 0)
def fSheet_darken_1_h9 : Nat → ev_M → Int32 → Int32 → Int32 → Option ev_M
  | 0, _, _, _, _ => none
  | n + 1, s, x2, x3, x4 =>
    if x4 < (s.1 1 1) then
      bd1 (fTape_byteAt_1 s x4) fun v3 =>
      bd1 (fMath_min s x2 v3) fun v4 =>
      bd1 (fTape_byteAt_1 s x4) fun v5 =>
      bd1 (fMath_max s x3 v5) fun v6 =>
      (fSheet_darken_1_h9 n) s v4 v6 (x4 + cI 1)
    else
      if (x3 - x2) < (cI 32) then
        fSheet_darken_1_b59 s x2 x3 (cI 0)
      else
        fSheet_darken_1_b59 s x2 x3 (cI 1)
def fSheet_darken_1 (s : ev_M) : Option ev_M :=
  fSheet_darken_1_h9 1048576 s (cI 255) (cI 0) (cI 0)
def fSheet_takeNeighbours_b97 (k8 : ev_M → Int32 → Int32 → Int32 → Option ev_M) (k32 : ev_M → Int32 → Int32 → Int32 → Int32 → Option ev_M) (s : ev_M) (x1 : Int32) (x2 : Int32) (x3 : Int32) (x4 : Int32) : Option ev_M :=
  k32 s x1 x2 x3 (x4 + cI 1)
def fSheet_takeNeighbours_b103 (k8 : ev_M → Int32 → Int32 → Int32 → Option ev_M) (s : ev_M) (x1 : Int32) (x2 : Int32) (x3 : Int32) : Option ev_M :=
  k8 s x1 x2 (x3 + cI 1)
def fSheet_takeNeighbours_h32 (k8 : ev_M → Int32 → Int32 → Int32 → Option ev_M) : Nat → ev_M → Int32 → Int32 → Int32 → Int32 → Option ev_M
  | 0, _, _, _, _, _ => none
  | n + 1, s, x1, x2, x3, x4 =>
    if x4 ≤ (x1 + (cI 1)) then
      if x4 < (s.1 52 4) then
        ltI ((x3 * (s.1 52 4)) + x4) fun v1 =>
        if inb v1 4096 = true then
        if (s.1 53 (ix v1)) = (cI 1) then
          if inb v1 4096 = true then
          ltM (wI s 53 (ix v1) (i2b (cI 2))) fun s2 =>
          ltM (wI s2 52 8 ((s2.1 52 8) + (cI 1))) fun s3 =>
          if inb (s2.1 52 8) 4096 = true then
          ltM (wI s3 54 (ix (s2.1 52 8)) v1) fun s4 =>
          fSheet_takeNeighbours_b97 k8 (fSheet_takeNeighbours_h32 k8 n) s4 x1 x2 x3 x4
          else none
          else none
        else
          fSheet_takeNeighbours_b97 k8 (fSheet_takeNeighbours_h32 k8 n) s x1 x2 x3 x4
        else none
      else
        fSheet_takeNeighbours_b103 k8 s x1 x2 x3
    else
      fSheet_takeNeighbours_b103 k8 s x1 x2 x3
def fSheet_takeNeighbours_h8 : Nat → ev_M → Int32 → Int32 → Int32 → Option ev_M
  | 0, _, _, _, _ => none
  | n + 1, s, x1, x2, x3 =>
    if x3 ≤ (x2 + (cI 1)) then
      if x3 < (s.1 52 5) then
        bd1 (fMath_max s (cI 0) (x1 - (cI 1))) fun v5 =>
        fSheet_takeNeighbours_h32 (fSheet_takeNeighbours_h8 n) 1048576 s x1 x2 x3 v5
      else
        some s
    else
      some s
def fSheet_takeNeighbours (s : ev_M) (a1 : Int32) (a2 : Int32) : Option ev_M :=
  bd1 (fMath_max s (cI 0) (a2 - (cI 1))) fun v6 =>
  fSheet_takeNeighbours_h8 1048576 s a1 a2 v6
def fSheet_takePart_b131 (s : ev_M) (x2 : Int32) (x3 : Int32) (x4 : Int32) (x5 : Int32) : Option ev_M :=
  if (s.1 52 8) < (cI 4) then
    some s
  else
    if inb (s.1 52 9) 200 = true then
    ltM (wI s (56 + (ix (cI 0))) (ix (s.1 52 9)) x2) fun s1 =>
    if inb (s1.1 52 9) 200 = true then
    ltM (wI s1 (56 + (ix (cI 1))) (ix (s1.1 52 9)) x4) fun s2 =>
    if inb (s2.1 52 9) 200 = true then
    ltM (wI s2 (56 + (ix (cI 2))) (ix (s2.1 52 9)) ((x3 - x2) + (cI 1))) fun s3 =>
    ltM (wI s3 52 9 ((s3.1 52 9) + (cI 1))) fun s4 =>
    if inb (s3.1 52 9) 200 = true then
    ltM (wI s4 (56 + (ix (cI 3))) (ix (s3.1 52 9)) ((x5 - x4) + (cI 1))) fun s5 =>
    some s5
    else none
    else none
    else none
    else none
def fSheet_takePart_h38 : Nat → ev_M → Int32 → Int32 → Int32 → Int32 → Int32 → Option ev_M
  | 0, _, _, _, _, _, _ => none
  | n + 1, s, x2, x3, x4, x5, x6 =>
    if x6 < (s.1 52 8) then
      if x6 < (cI 4096) then
        if inb x6 4096 = true then
        if (s.1 52 4) = 0 then none else
        ltI (irem (s.1 54 (ix x6)) (s.1 52 4)) fun v6 =>
        if inb x6 4096 = true then
        if (s.1 52 4) = 0 then none else
        ltI ((s.1 54 (ix x6)) / (s.1 52 4)) fun v7 =>
        bd1 (fMath_min s x2 v6) fun v8 =>
        bd1 (fMath_max s x3 v6) fun v9 =>
        bd1 (fMath_min s x4 v7) fun v10 =>
        bd1 (fMath_max s x5 v7) fun v11 =>
        bd1 (fSheet_takeNeighbours s v6 v7) fun s12 =>
        (fSheet_takePart_h38 n) s12 v8 v9 v10 v11 (x6 + cI 1)
        else none
        else none
      else
        fSheet_takePart_b131 s x2 x3 x4 x5
    else
      fSheet_takePart_b131 s x2 x3 x4 x5
def fSheet_takePart (s : ev_M) (a1 : Int32) : Option ev_M :=
  ltI (s.1 52 4) fun v13 =>
  ltI (s.1 52 5) fun v14 =>
  ltM (wI s 54 (ix (cI 0)) a1) fun s15 =>
  ltM (wI s15 52 8 (cI 1)) fun s16 =>
  if inb a1 4096 = true then
  ltM (wI s16 53 (ix a1) (i2b (cI 2))) fun s17 =>
  fSheet_takePart_h38 1048576 s17 v13 (cI 0) v14 (cI 0) (cI 0)
  else none
def fSheet_findParts_b45 (k7 : ev_M → Int32 → Option ev_M) (s : ev_M) (x1 : Int32) : Option ev_M :=
  k7 s (x1 + cI 1)
def fSheet_findParts_h7 : Nat → ev_M → Int32 → Option ev_M
  | 0, _, _ => none
  | n + 1, s, x1 =>
    if x1 < ((s.1 52 4) * (s.1 52 5)) then
      if (s.1 52 9) < (cI 200) then
        if inb x1 4096 = true then
        if (s.1 53 (ix x1)) = (cI 1) then
          bd1 (fSheet_takePart s x1) fun s1 =>
          fSheet_findParts_b45 (fSheet_findParts_h7 n) s1 x1
        else
          fSheet_findParts_b45 (fSheet_findParts_h7 n) s x1
        else none
      else
        some s
    else
      some s
def fSheet_findParts (s : ev_M) : Option ev_M :=
  ltM (wI s 52 9 (cI 0)) fun s2 =>
  fSheet_findParts_h7 1048576 s2 (cI 0)
def fSheet_areNear (s : ev_M) (a1 : Int32) (a2 : Int32) : Option Int32 :=
  if inb a1 200 = true then
  if inb a2 200 = true then
  bd1 (fMath_max s (s.1 (56 + (ix (cI 1))) (ix a1)) (s.1 (56 + (ix (cI 1))) (ix a2))) fun v1 =>
  if inb a1 200 = true then
  if inb a1 200 = true then
  if inb a2 200 = true then
  if inb a2 200 = true then
  bd1 (fMath_min s ((s.1 (56 + (ix (cI 1))) (ix a1)) + (s.1 (56 + (ix (cI 3))) (ix a1))) ((s.1 (56 + (ix (cI 1))) (ix a2)) + (s.1 (56 + (ix (cI 3))) (ix a2)))) fun v2 =>
  if inb a1 200 = true then
  if inb a2 200 = true then
  bd1 (fMath_min s (s.1 (56 + (ix (cI 3))) (ix a1)) (s.1 (56 + (ix (cI 3))) (ix a2))) fun v3 =>
  if ((cI 2) * (v2 - v1)) < v3 then
    some (cI 0)
  else
    some (cI 1)
  else none
  else none
  else none
  else none
  else none
  else none
  else none
  else none
def fSheet_joinLine_b100 (k21 : ev_M → Int32 → Int32 → Option ev_M) (k39 : ev_M → Int32 → Int32 → Int32 → Option ev_M) (s : ev_M) (x2 : Int32) (x3 : Int32) (x4 : Int32) : Option ev_M :=
  k39 s x2 x3 (x4 + cI 1)
def fSheet_joinLine_h39 (k21 : ev_M → Int32 → Int32 → Option ev_M) : Nat → ev_M → Int32 → Int32 → Int32 → Option ev_M
  | 0, _, _, _, _ => none
  | n + 1, s, x2, x3, x4 =>
    if x4 < (s.1 52 9) then
      if inb x4 200 = true then
      if (s.1 60 (ix x4)) = (cI (-1)) then
        if inb x3 4096 = true then
        bd1 (fSheet_areNear s (s.1 54 (ix x3)) x4) fun v1 =>
        if v1 = 0 then
          fSheet_joinLine_b100 k21 (fSheet_joinLine_h39 k21 n) s x2 x3 x4
        else
          if inb x4 200 = true then
          ltM (wI s 60 (ix x4) x2) fun s2 =>
          ltM (wI s2 52 8 ((s2.1 52 8) + (cI 1))) fun s3 =>
          if inb (s2.1 52 8) 4096 = true then
          ltM (wI s3 54 (ix (s2.1 52 8)) x4) fun s4 =>
          fSheet_joinLine_b100 k21 (fSheet_joinLine_h39 k21 n) s4 x2 x3 x4
          else none
          else none
        else none
      else
        fSheet_joinLine_b100 k21 (fSheet_joinLine_h39 k21 n) s x2 x3 x4
      else none
    else
      k21 s x2 (x3 + cI 1)
def fSheet_joinLine_h21 : Nat → ev_M → Int32 → Int32 → Option ev_M
  | 0, _, _, _ => none
  | n + 1, s, x2, x3 =>
    if x3 < (s.1 52 8) then
      if x3 < (cI 200) then
        fSheet_joinLine_h39 (fSheet_joinLine_h21 n) 1048576 s x2 x3 (cI 0)
      else
        some s
    else
      some s
def fSheet_joinLine (s : ev_M) (a1 : Int32) (a2 : Int32) : Option ev_M :=
  ltM (wI s 54 (ix (cI 0)) a1) fun s5 =>
  ltM (wI s5 52 8 (cI 1)) fun s6 =>
  if inb a1 200 = true then
  ltM (wI s6 60 (ix a1) a2) fun s7 =>
  fSheet_joinLine_h21 1048576 s7 a2 (cI 0)
  else none
def fArr_fillI_60_h5 : Nat → ev_M → Int32 → Int32 → Int32 → Option ev_M
  | 0, _, _, _, _ => none
  | n + 1, s, x1, x2, x3 =>
    if x2 < x3 then
      if inb x2 200 = true then
      ltM (wI s 60 (ix x2) x1) fun s1 =>
      (fArr_fillI_60_h5 n) s1 x1 (x2 + cI 1) x3
      else none
    else
      some s
def fArr_fillI_60 (s : ev_M) (a1 : Int32) : Option ev_M :=
  fArr_fillI_60_h5 1048576 s a1 (cI 0) (cI 200)
def fSheet_joinLines_b39 (k12 : ev_M → Int32 → Int32 → Option ev_M) (s : ev_M) (x1 : Int32) (x2 : Int32) : Option ev_M :=
  k12 s x1 (x2 + cI 1)
def fSheet_joinLines_h12 : Nat → ev_M → Int32 → Int32 → Option ev_M
  | 0, _, _, _ => none
  | n + 1, s, x1, x2 =>
    if x2 < (s.1 52 9) then
      if inb x2 200 = true then
      if (s.1 60 (ix x2)) = (cI (-1)) then
        bd1 (fSheet_joinLine s x2 x1) fun s1 =>
        fSheet_joinLines_b39 (fSheet_joinLines_h12 n) s1 (x1 + cI 1) x2
      else
        fSheet_joinLines_b39 (fSheet_joinLines_h12 n) s x1 x2
      else none
    else
      some s
def fSheet_joinLines (s : ev_M) : Option ev_M :=
  bd1 (fArr_fillI_60 s (cI (-1))) fun s2 =>
  fSheet_joinLines_h12 1048576 s2 (cI 0) (cI 0)
def fSheet_goesBefore (s : ev_M) (a1 : Int32) (a2 : Int32) : Option Int32 :=
  if inb a1 200 = true then
  if inb a2 200 = true then
  if (s.1 60 (ix a1)) = (s.1 60 (ix a2)) then
    if inb a1 200 = true then
    if inb a2 200 = true then
    ltI ((s.1 (56 + (ix (cI 0))) (ix a1)) - (s.1 (56 + (ix (cI 0))) (ix a2))) fun v1 =>
    if inb a1 200 = true then
    if inb a2 200 = true then
    ltI ((s.1 (56 + (ix (cI 1))) (ix a1)) - (s.1 (56 + (ix (cI 1))) (ix a2))) fun v2 =>
    if v1 = 0 then
      if v2 = 0 then
        if a1 < a2 then
          some (cI 1)
        else
          some (cI 0)
      else
        if v2 < 0 then
          some (cI 1)
        else
          some (cI 0)
    else
      if v1 < 0 then
        some (cI 1)
      else
        some (cI 0)
    else none
    else none
    else none
    else none
  else
    if inb a1 200 = true then
    if inb a2 200 = true then
    if (s.1 60 (ix a1)) < (s.1 60 (ix a2)) then
      some (cI 1)
    else
      some (cI 0)
    else none
    else none
  else none
  else none
def fSheet_orderParts_b52 (k2 : ev_M → Int32 → Option ev_M) (s : ev_M) (x1 : Int32) (x2 : Int32) : Option ev_M :=
  if inb x2 200 = true then
  ltM (wI s 61 (ix x2) x1) fun s1 =>
  k2 s1 (x1 + cI 1)
  else none
def fSheet_orderParts_h12 (k2 : ev_M → Int32 → Option ev_M) : Nat → ev_M → Int32 → Int32 → Option ev_M
  | 0, _, _, _ => none
  | n + 1, s, x1, x2 =>
    if x2 ≤ 0 then
      fSheet_orderParts_b52 k2 s x1 x2
    else
      if inb (x2 - (cI 1)) 200 = true then
      bd1 (fSheet_goesBefore s x1 (s.1 61 (ix (x2 - (cI 1))))) fun v2 =>
      if v2 = 0 then
        fSheet_orderParts_b52 k2 s x1 x2
      else
        if inb (x2 - (cI 1)) 200 = true then
        if inb x2 200 = true then
        ltM (wI s 61 (ix x2) (s.1 61 (ix (x2 - (cI 1))))) fun s3 =>
        (fSheet_orderParts_h12 k2 n) s3 x1 (x2 + cI (-1))
        else none
        else none
      else none
def fSheet_orderParts_h2 : Nat → ev_M → Int32 → Option ev_M
  | 0, _, _ => none
  | n + 1, s, x1 =>
    if x1 < (s.1 52 9) then
      fSheet_orderParts_h12 (fSheet_orderParts_h2 n) 1048576 s x1 x1
    else
      some s
def fSheet_orderParts (s : ev_M) : Option ev_M :=
  fSheet_orderParts_h2 1048576 s (cI 0)
def fSheet_isInk_b43 (s : ev_M) (k6 : Int32 → Int32 → Int32 → Int32 → Int32 → Int32 → Option Int32) (k16 : Int32 → Int32 → Int32 → Int32 → Int32 → Int32 → Int32 → Option Int32) (x1 : Int32) (x2 : Int32) (x3 : Int32) (x4 : Int32) (x5 : Int32) (x6 : Int32) (x7 : Int32) : Option Int32 :=
  k16 x1 x2 x3 x4 x5 x6 (x7 + cI 1)
def fSheet_isInk_h16 (s : ev_M) (k6 : Int32 → Int32 → Int32 → Int32 → Int32 → Int32 → Option Int32) : Nat → Int32 → Int32 → Int32 → Int32 → Int32 → Int32 → Int32 → Option Int32
  | 0, _, _, _, _, _, _, _ => none
  | n + 1, x1, x2, x3, x4, x5, x6, x7 =>
    if x7 < x2 then
      if inb ((x6 * (s.1 52 4)) + x7) 4096 = true then
      if (s.1 53 (ix ((x6 * (s.1 52 4)) + x7))) = 0 then
        fSheet_isInk_b43 s k6 (fSheet_isInk_h16 s k6 n) x1 x2 x3 x4 x5 x6 x7
      else
        fSheet_isInk_b43 s k6 (fSheet_isInk_h16 s k6 n) x1 x2 x3 x4 (x5 + cI 1) x6 x7
      else none
    else
      k6 x1 x2 x3 x4 x5 (x6 + cI 1)
def fSheet_isInk_h6 (s : ev_M) : Nat → Int32 → Int32 → Int32 → Int32 → Int32 → Int32 → Option Int32
  | 0, _, _, _, _, _, _ => none
  | n + 1, x1, x2, x3, x4, x5, x6 =>
    if x6 < x4 then
      fSheet_isInk_h16 s (fSheet_isInk_h6 s n) 1048576 x1 x2 x3 x4 x5 x6 x1
    else
      ltI ((x2 - x1) * (x4 - x3)) fun v1 =>
      if v1 ≤ 0 then
        some (cI 0)
      else
        if ((cI 2) * x5) < v1 then
          some (cI 0)
        else
          some (cI 1)
def fSheet_isInk (s : ev_M) (a1 : Int32) (a2 : Int32) (a3 : Int32) (a4 : Int32) : Option Int32 :=
  fSheet_isInk_h6 s 1048576 a1 a2 a3 a4 (cI 0) a3
def fSheet_cellsOf_b139 (s : ev_M) (k4 : Int32 → Int32 → Int32 → Option Int32) (k60 : Int32 → Int32 → Int32 → Int32 → Int32 → Int32 → Option Int32) (x1 : Int32) (x3 : Int32) (x4 : Int32) (x5 : Int32) (x6 : Int32) (y0 : Int32) (y1 : Int32) : Option Int32 :=
  ltI (y0 ||| y1) fun v1 =>
  k60 x1 v1 x3 x4 x5 (x6 + cI 1)
def fSheet_cellsOf_h60 (s : ev_M) (k4 : Int32 → Int32 → Int32 → Option Int32) : Nat → Int32 → Int32 → Int32 → Int32 → Int32 → Int32 → Option Int32
  | 0, _, _, _, _, _, _ => none
  | n + 1, x1, x2, x3, x4, x5, x6 =>
    if x6 < (cI 3) then
      if inb x1 200 = true then
      if inb x1 200 = true then
      if (cI 3) = 0 then none else
      ltI ((s.1 (56 + (ix (cI 0))) (ix x1)) + ((x6 * (s.1 (56 + (ix (cI 2))) (ix x1))) / (cI 3))) fun v2 =>
      if inb x1 200 = true then
      if inb x1 200 = true then
      if (cI 3) = 0 then none else
      ltI ((s.1 (56 + (ix (cI 0))) (ix x1)) + (((x6 + (cI 1)) * (s.1 (56 + (ix (cI 2))) (ix x1))) / (cI 3))) fun v3 =>
      bd1 (fSheet_isInk s v2 v3 x4 x5) fun v4 =>
      if v4 = 0 then
        fSheet_cellsOf_b139 s k4 (fSheet_cellsOf_h60 s k4 n) x1 x3 x4 x5 x6 (x2 <<< ((cI 1) &&& 31)) (cI 0)
      else
        fSheet_cellsOf_b139 s k4 (fSheet_cellsOf_h60 s k4 n) x1 x3 x4 x5 x6 (x2 <<< ((cI 1) &&& 31)) (cI 1)
      else none
      else none
      else none
      else none
    else
      k4 x1 x2 (x3 + cI 1)
def fSheet_cellsOf_h4 (s : ev_M) : Nat → Int32 → Int32 → Int32 → Option Int32
  | 0, _, _, _ => none
  | n + 1, x1, x2, x3 =>
    if x3 < (cI 5) then
      if inb x1 200 = true then
      if inb x1 200 = true then
      if (cI 5) = 0 then none else
      ltI ((s.1 (56 + (ix (cI 1))) (ix x1)) + ((x3 * (s.1 (56 + (ix (cI 3))) (ix x1))) / (cI 5))) fun v5 =>
      if inb x1 200 = true then
      if inb x1 200 = true then
      if (cI 5) = 0 then none else
      ltI ((s.1 (56 + (ix (cI 1))) (ix x1)) + (((x3 + (cI 1)) * (s.1 (56 + (ix (cI 3))) (ix x1))) / (cI 5))) fun v6 =>
      fSheet_cellsOf_h60 s (fSheet_cellsOf_h4 s n) 1048576 x1 x2 x3 v5 v6 (cI 0)
      else none
      else none
      else none
      else none
    else
      some x2
def fSheet_cellsOf (s : ev_M) (a1 : Int32) : Option Int32 :=
  fSheet_cellsOf_h4 s 1048576 a1 (cI 0) (cI 0)
def fInt_bitCount (s : ev_M) (a0 : Int32) : Option Int32 :=
  ltI (a0 - ((iushr a0 (cI 1)) &&& (cI 1431655765))) fun v1 =>
  ltI ((v1 &&& (cI 858993459)) + ((iushr v1 (cI 2)) &&& (cI 858993459))) fun v2 =>
  ltI ((v2 + (iushr v2 (cI 4))) &&& (cI 252645135)) fun v3 =>
  ltI (v3 + (iushr v3 (cI 8))) fun v4 =>
  ltI (v4 + (iushr v4 (cI 16))) fun v5 =>
  some (v5 &&& (cI 63))
def fSheet_nearest_b63 (s : ev_M) (k8 : Int32 → Int32 → Int32 → Int32 → Int32 → Int32 → Option Int32) (x0 : Int32) (x1 : Int32) (x2 : Int32) (x3 : Int32) (x4 : Int32) (x5 : Int32) : Option Int32 :=
  k8 x0 x1 x2 x3 x4 (x5 + cI 1)
def fSheet_nearest_h8 (s : ev_M) : Nat → Int32 → Int32 → Int32 → Int32 → Int32 → Int32 → Option Int32
  | 0, _, _, _, _, _, _ => none
  | n + 1, x0, x1, x2, x3, x4, x5 =>
    if x5 < x2 then
      if x5 < (cI 36) then
        if inb x5 36 = true then
        bd1 (fInt_bitCount s (x0 ^^^ (s.1 1004 (ix x5)))) fun v1 =>
        if v1 < x3 then
          ltI (x5 - x1) fun v2 =>
          fSheet_nearest_b63 s (fSheet_nearest_h8 s n) x0 x1 x2 v1 v2 x5
        else
          if v1 = x3 then
            fSheet_nearest_b63 s (fSheet_nearest_h8 s n) x0 x1 x2 x3 (cI (-1)) x5
          else
            fSheet_nearest_b63 s (fSheet_nearest_h8 s n) x0 x1 x2 x3 x4 x5
        else none
      else
        some x4
    else
      some x4
def fSheet_nearest (s : ev_M) (a0 : Int32) (a1 : Int32) (a2 : Int32) : Option Int32 :=
  fSheet_nearest_h8 s 1048576 a0 a1 a2 (cI 4) (cI (-1)) a1
def fSheet_keepBox_b182 (s : ev_M) (m0 : Nat) (y1 : Int32) (y2 : Int32) : Option ev_M :=
  if inb y1 200 = true then
  ltM (wI s (68 + m0) (ix y1) y2) fun s1 =>
  some s1
  else none
def fSheet_keepBox_b164 (s : ev_M) (x1 : Int32) (x4 : Int32) : Option ev_M :=
  if x4 = 0 then
    fSheet_keepBox_b182 s (ix (cI 7)) x1 (cI 0)
  else
    fSheet_keepBox_b182 s (ix (cI 7)) x1 (cI 1)
def fSheet_keepBox_b162 (s : ev_M) (x1 : Int32) (y0 : Int32) : Option ev_M :=
  fSheet_keepBox_b164 s x1 y0
def fSheet_keepBox_h3 : Nat → ev_M → Int32 → Int32 → Int32 → Int32 → Option ev_M
  | 0, _, _, _, _, _ => none
  | n + 1, s, x1, x2, x3, x4 =>
    if x4 ≤ (cI 3) then
      if inb x4 8 = true then
      if inb x4 4 = true then
      if inb x2 200 = true then
      if inb x1 200 = true then
      ltM (wI s (68 + (ix x4)) (ix x1) (s.1 (56 + (ix x4)) (ix x2))) fun s2 =>
      (fSheet_keepBox_h3 n) s2 x1 x2 x3 (x4 + cI 1)
      else none
      else none
      else none
      else none
    else
      bd1 (fSheet_cellsOf s x2) fun v3 =>
      if inb x1 200 = true then
      ltM (wI s (68 + (ix (cI 4))) (ix x1) v3) fun s4 =>
      if inb x1 200 = true then
      bd1 (fSheet_nearest s4 (s4.1 (68 + (ix (cI 4))) (ix x1)) (cI 0) (cI 10)) fun v5 =>
      if inb x1 200 = true then
      ltM (wI s4 (68 + (ix (cI 5))) (ix x1) v5) fun s6 =>
      if inb x1 200 = true then
      bd1 (fSheet_nearest s6 (s6.1 (68 + (ix (cI 4))) (ix x1)) (cI 10) (cI 36)) fun v7 =>
      if inb x1 200 = true then
      ltM (wI s6 (68 + (ix (cI 6))) (ix x1) v7) fun s8 =>
      if x3 = 0 then
        if x1 ≤ 0 then
          fSheet_keepBox_b164 s8 x1 x3
        else
          if inb x1 200 = true then
          if inb (x1 - (cI 1)) 200 = true then
          if inb (x1 - (cI 1)) 200 = true then
          ltI (((s8.1 (68 + (ix (cI 0))) (ix x1)) - (s8.1 (68 + (ix (cI 0))) (ix (x1 - (cI 1))))) - (s8.1 (68 + (ix (cI 2))) (ix (x1 - (cI 1))))) fun v9 =>
          if inb (x1 - (cI 1)) 200 = true then
          if ((cI 5) * v9) < ((cI 2) * (s8.1 (68 + (ix (cI 3))) (ix (x1 - (cI 1))))) then
            fSheet_keepBox_b162 s8 x1 (cI 0)
          else
            fSheet_keepBox_b162 s8 x1 (cI 1)
          else none
          else none
          else none
          else none
      else
        fSheet_keepBox_b164 s8 x1 x3
      else none
      else none
      else none
      else none
      else none
def fSheet_keepBox (s : ev_M) (a1 : Int32) (a2 : Int32) (a3 : Int32) : Option ev_M :=
  fSheet_keepBox_h3 1048576 s a1 a2 a3 (cI 0)
def fSheet_beginLine (s : ev_M) (a1 : Int32) (a2 : Int32) : Option ev_M :=
  if inb (s.1 52 13) 10 = true then
  ltM (wI s (63 + (ix (cI 3))) (ix (s.1 52 13)) a1) fun s1 =>
  if inb (s1.1 52 13) 10 = true then
  ltM (wI s1 (63 + (ix (cI 0))) (ix (s1.1 52 13)) (cI 0)) fun s2 =>
  if inb a2 200 = true then
  if inb (s2.1 52 13) 10 = true then
  ltM (wI s2 (63 + (ix (cI 1))) (ix (s2.1 52 13)) (s2.1 (56 + (ix (cI 1))) (ix a2))) fun s3 =>
  if inb a2 200 = true then
  if inb (s3.1 52 13) 10 = true then
  ltM (wI s3 (63 + (ix (cI 2))) (ix (s3.1 52 13)) (s3.1 (56 + (ix (cI 0))) (ix a2))) fun s4 =>
  ltM (wI s4 52 13 ((s4.1 52 13) + (cI 1))) fun s5 =>
  some s5
  else none
  else none
  else none
  else none
  else none
  else none
def fSheet_keepLines_b78 (k7 : ev_M → Int32 → Option ev_M) (s : ev_M) (x1 : Int32) (x2 : Int32) (x3 : Int32) : Option ev_M :=
  ltI ((s.1 52 13) - (cI 1)) fun v1 =>
  if inb v1 10 = true then
  if inb v1 10 = true then
  ltM (wI s (63 + (ix (cI 0))) (ix v1) ((s.1 (63 + (ix (cI 0))) (ix v1)) + (cI 1))) fun s2 =>
  if inb v1 10 = true then
  if inb x2 200 = true then
  bd1 (fMath_min s2 (s2.1 (63 + (ix (cI 1))) (ix v1)) (s2.1 (56 + (ix (cI 1))) (ix x2))) fun v3 =>
  if inb v1 10 = true then
  ltM (wI s2 (63 + (ix (cI 1))) (ix v1) v3) fun s4 =>
  if inb v1 10 = true then
  if inb x2 200 = true then
  bd1 (fMath_min s4 (s4.1 (63 + (ix (cI 2))) (ix v1)) (s4.1 (56 + (ix (cI 0))) (ix x2))) fun v5 =>
  if inb v1 10 = true then
  ltM (wI s4 (63 + (ix (cI 2))) (ix v1) v5) fun s6 =>
  bd1 (fSheet_keepBox s6 x1 x2 x3) fun s7 =>
  k7 s7 (x1 + cI 1)
  else none
  else none
  else none
  else none
  else none
  else none
  else none
  else none
def fSheet_keepLines_b68 (k7 : ev_M → Int32 → Option ev_M) (s : ev_M) (x1 : Int32) (x2 : Int32) (x3 : Int32) : Option ev_M :=
  if x3 = 0 then
    fSheet_keepLines_b78 k7 s x1 x2 x3
  else
    bd1 (fSheet_beginLine s x1 x2) fun s8 =>
    fSheet_keepLines_b78 k7 s8 x1 x2 x3
def fSheet_keepLines_b53 (k7 : ev_M → Int32 → Option ev_M) (s : ev_M) (x1 : Int32) (x2 : Int32) (y0 : Int32) : Option ev_M :=
  if y0 = 0 then
    fSheet_keepLines_b68 k7 s x1 x2 y0
  else
    if (s.1 52 13) = (cI 10) then
      some s
    else
      fSheet_keepLines_b68 k7 s x1 x2 y0
def fSheet_keepLines_b48 (k7 : ev_M → Int32 → Option ev_M) (s : ev_M) (x1 : Int32) (x2 : Int32) : Option ev_M :=
  fSheet_keepLines_b53 k7 s x1 x2 (cI 1)
def fSheet_keepLines_h7 : Nat → ev_M → Int32 → Option ev_M
  | 0, _, _ => none
  | n + 1, s, x1 =>
    if x1 < (s.1 52 9) then
      if inb x1 200 = true then
      ltI (s.1 61 (ix x1)) fun v9 =>
      if x1 = 0 then
        fSheet_keepLines_b48 (fSheet_keepLines_h7 n) s x1 v9
      else
        if inb v9 200 = true then
        if inb (x1 - (cI 1)) 200 = true then
        if inb (s.1 61 (ix (x1 - (cI 1)))) 200 = true then
        if (s.1 60 (ix v9)) = (s.1 60 (ix (s.1 61 (ix (x1 - (cI 1)))))) then
          fSheet_keepLines_b53 (fSheet_keepLines_h7 n) s x1 v9 (cI 0)
        else
          fSheet_keepLines_b48 (fSheet_keepLines_h7 n) s x1 v9
        else none
        else none
        else none
      else none
    else
      some s
def fSheet_keepLines (s : ev_M) : Option ev_M :=
  ltM (wI s 52 13 (cI 0)) fun s10 =>
  fSheet_keepLines_h7 1048576 s10 (cI 0)
def fBook_isStreetOf (s : ev_M) (a1 : Int32) (a2 : Int32) : Option Int32 :=
  if inb a1 30 = true then
  if (s.1 (33 + (ix (cI 3))) (ix a1)) = a2 then
    some (cI 1)
  else
    some (cI 0)
  else none
def fBook_spell_76_h50 : Nat → ev_M → Int32 → Int64 → Int32 → Option (ev_M × Int32)
  | 0, _, _, _, _ => none
  | n + 1, s, x3, x4, x6 =>
    if x6 < 0 then
      some (s, x3)
    else
      if (cL 27) = 0 then none else
      if inb x6 10 = true then
      ltM (wI s 76 (ix x6) ((Int64.toInt32 (lrem x4 (cL 27))) - (cI 1))) fun s1 =>
      if (cL 27) = 0 then none else
      ltL (x4 / (cL 27)) fun v2 =>
      (fBook_spell_76_h50 n) s1 x3 v2 (x6 + cI (-1))
      else none
def fBook_spell_76_b37 (s : ev_M) (x1 : Int32) (x3 : Int32) : Option (ev_M × Int32) :=
  if inb x1 30 = true then
  ltL (s.2.1 37 (ix x1)) fun v3 =>
  ltI (x3 - (cI 1)) fun v4 =>
  fBook_spell_76_h50 1048576 s x3 v3 v4
  else none
def fBook_spell_76_h10 : Nat → ev_M → Int32 → Int32 → Int64 → Option (ev_M × Int32)
  | 0, _, _, _, _ => none
  | n + 1, s, x1, x3, x4 =>
    if (lg_cmp x4 (cL 0)) ≤ 0 then
      fBook_spell_76_b37 s x1 x3
    else
      if x3 < (cI 10) then
        if (cL 27) = 0 then none else
        ltL (x4 / (cL 27)) fun v5 =>
        (fBook_spell_76_h10 n) s x1 (x3 + cI 1) v5
      else
        fBook_spell_76_b37 s x1 x3
def fBook_spell_76 (s : ev_M) (a1 : Int32) : Option (ev_M × Int32) :=
  if inb a1 30 = true then
  ltL (s.2.1 37 (ix a1)) fun v6 =>
  fBook_spell_76_h10 1048576 s a1 (cI 0) v6
  else none
def fSheet_changesTo_b105 (k42 : ev_M → Int32 → Int32 → Int32 → Option (ev_M × Int32)) (k69 : ev_M → Int32 → Int32 → Int32 → Int32 → Int32 → Option (ev_M × Int32)) (s : ev_M) (x3 : Int32) (x4 : Int32) (x5 : Int32) (x7 : Int32) (y0 : Int32) (y1 : Int32) : Option (ev_M × Int32) :=
  ltI (y0 + y1) fun v1 =>
  if inb x7 11 = true then
  ltI (s.1 77 (ix x7)) fun v2 =>
  if inb x7 11 = true then
  if inb (x7 - (cI 1)) 11 = true then
  bd1 (fMath_min s (s.1 77 (ix x7)) (s.1 77 (ix (x7 - (cI 1))))) fun v3 =>
  bd1 (fMath_min s v1 ((cI 1) + v3)) fun v4 =>
  if inb x7 11 = true then
  ltM (wI s 77 (ix x7) v4) fun s5 =>
  k69 s5 x3 x4 x5 v2 (x7 + cI 1)
  else none
  else none
  else none
  else none
def fSheet_changesTo_h69 (k42 : ev_M → Int32 → Int32 → Int32 → Option (ev_M × Int32)) : Nat → ev_M → Int32 → Int32 → Int32 → Int32 → Int32 → Option (ev_M × Int32)
  | 0, _, _, _, _, _, _ => none
  | n + 1, s, x3, x4, x5, x6, x7 =>
    if x7 ≤ x4 then
      if inb x5 200 = true then
      if inb (x7 - (cI 1)) 10 = true then
      if (s.1 (68 + (ix (cI 6))) (ix x5)) = (s.1 76 (ix (x7 - (cI 1)))) then
        fSheet_changesTo_b105 k42 (fSheet_changesTo_h69 k42 n) s x3 x4 x5 x7 x6 (cI 0)
      else
        fSheet_changesTo_b105 k42 (fSheet_changesTo_h69 k42 n) s x3 x4 x5 x7 x6 (cI 1)
      else none
      else none
    else
      k42 s x3 x4 (x5 + cI 1)
def fSheet_changesTo_h42 : Nat → ev_M → Int32 → Int32 → Int32 → Option (ev_M × Int32)
  | 0, _, _, _, _ => none
  | n + 1, s, x3, x4, x5 =>
    if x5 < x3 then
      ltI (s.1 77 (ix (cI 0))) fun v6 =>
      ltM (wI s 77 (ix (cI 0)) ((s.1 77 (ix (cI 0))) + (cI 1))) fun s7 =>
      fSheet_changesTo_h69 (fSheet_changesTo_h42 n) 1048576 s7 x3 x4 x5 v6 (cI 1)
    else
      if inb x4 11 = true then
      some (s, (s.1 77 (ix x4)))
      else none
def fSheet_changesTo_h17 : Nat → ev_M → Int32 → Int32 → Int32 → Int32 → Option (ev_M × Int32)
  | 0, _, _, _, _, _ => none
  | n + 1, s, x2, x3, x4, x5 =>
    if x5 ≤ x4 then
      if inb x5 11 = true then
      ltM (wI s 77 (ix x5) x5) fun s8 =>
      (fSheet_changesTo_h17 n) s8 x2 x3 x4 (x5 + cI 1)
      else none
    else
      fSheet_changesTo_h42 1048576 s x3 x4 x2
def fSheet_changesTo (s : ev_M) (a1 : Int32) (a2 : Int32) (a3 : Int32) : Option (ev_M × Int32) :=
  bd2 (fBook_spell_76 s a1) fun s9 v10 =>
  fSheet_changesTo_h17 1048576 s9 a2 a3 v10 (cI 0)
def fSheet_streetLike_b75 (k9 : ev_M → Int32 → Int32 → Int32 → Int32 → Int32 → Int32 → Option (ev_M × Int32)) (s : ev_M) (x1 : Int32) (x2 : Int32) (x3 : Int32) (x4 : Int32) (x5 : Int32) (x6 : Int32) : Option (ev_M × Int32) :=
  k9 s x1 x2 x3 x4 x5 (x6 + cI 1)
def fSheet_streetLike_h9 : Nat → ev_M → Int32 → Int32 → Int32 → Int32 → Int32 → Int32 → Option (ev_M × Int32)
  | 0, _, _, _, _, _, _, _ => none
  | n + 1, s, x1, x2, x3, x4, x5, x6 =>
    if x6 < (s.1 30 4) then
      bd1 (fBook_isStreetOf s x6 x1) fun v1 =>
      if v1 = 0 then
        fSheet_streetLike_b75 (fSheet_streetLike_h9 n) s x1 x2 x3 x4 x5 x6
      else
        bd2 (fSheet_changesTo s x6 x2 x3) fun s2 v3 =>
        if v3 < x4 then
          fSheet_streetLike_b75 (fSheet_streetLike_h9 n) s2 x1 x2 x3 v3 x6 x6
        else
          if v3 = x4 then
            fSheet_streetLike_b75 (fSheet_streetLike_h9 n) s2 x1 x2 x3 x4 (cI (-1)) x6
          else
            fSheet_streetLike_b75 (fSheet_streetLike_h9 n) s2 x1 x2 x3 x4 x5 x6
    else
      some (s, x5)
def fSheet_streetLike (s : ev_M) (a1 : Int32) (a2 : Int32) (a3 : Int32) : Option (ev_M × Int32) :=
  fSheet_streetLike_h9 1048576 s a1 a2 a3 (cI 3) (cI (-1)) (cI 0)
def fSheet_wordEnd_h4 (s : ev_M) : Nat → Int32 → Int32 → Option Int32
  | 0, _, _ => none
  | n + 1, x2, x3 =>
    if x3 < x2 then
      if inb x3 200 = true then
      if (s.1 (68 + (ix (cI 7))) (ix x3)) = 0 then
        (fSheet_wordEnd_h4 s n) x2 (x3 + cI 1)
      else
        some x3
      else none
    else
      some x3
def fSheet_wordEnd (s : ev_M) (a1 : Int32) (a2 : Int32) : Option Int32 :=
  ltI (a1 + (cI 1)) fun v1 =>
  fSheet_wordEnd_h4 s 1048576 a2 v1
def fSheet_numberOf_h19 (s : ev_M) : Nat → Int32 → Int32 → Int32 → Option Int32
  | 0, _, _, _ => none
  | n + 1, x2, x4, x5 =>
    if x5 < x2 then
      if inb x5 200 = true then
      if (s.1 (68 + (ix (cI 5))) (ix x5)) = (cI (-1)) then
        some (cI (-1))
      else
        if inb x5 200 = true then
        ltI ((x4 * (cI 10)) + (s.1 (68 + (ix (cI 5))) (ix x5))) fun v1 =>
        (fSheet_numberOf_h19 s n) x2 v1 (x5 + cI 1)
        else none
      else none
    else
      some x4
def fSheet_numberOf (s : ev_M) (a1 : Int32) (a2 : Int32) (a3 : Int32) : Option Int32 :=
  bd1 (fPH_outside s (a2 - a1) (cI 1) a3) fun v2 =>
  if v2 = 0 then
    fSheet_numberOf_h19 s 1048576 a2 (cI 0) a1
  else
    some (cI (-1))
def fSheet_lastWordOf_h4 (s : ev_M) : Nat → Int32 → Int32 → Option Int32
  | 0, _, _ => none
  | n + 1, x1, x3 =>
    if x3 ≤ x1 then
      some x3
    else
      if inb x3 200 = true then
      if (s.1 (68 + (ix (cI 7))) (ix x3)) = 0 then
        (fSheet_lastWordOf_h4 s n) x1 (x3 + cI (-1))
      else
        some x3
      else none
def fSheet_lastWordOf (s : ev_M) (a1 : Int32) (a2 : Int32) : Option Int32 :=
  ltI (a2 - (cI 1)) fun v1 =>
  fSheet_lastWordOf_h4 s 1048576 a1 v1
def fSheet_reading_b139 (s : ev_M) (x1 : Int32) (x4 : Int32) (x5 : Int32) (y0 : Int32) : Option (ev_M × Int32) :=
  if y0 = (cI (-1)) then
    some (s, (cI 4))
  else
    bd2 (fSheet_streetLike s x4 x1 x5) fun s1 v2 =>
    if v2 = (cI (-1)) then
      some (s1, (cI 5))
    else
      bd1 (fBook_pointOf s1 v2 y0) fun v3 =>
      ltM (wI s1 52 3 v3) fun s4 =>
      if (s4.1 52 3) = (cI (-1)) then
        some (s4, (cI 6))
      else
        some (s4, (cI 0))
def fSheet_reading (s : ev_M) : Option (ev_M × Int32) :=
  ltM (wI s 52 3 (cI (-1))) fun s5 =>
  if (s5.1 52 13) < (cI 2) then
    some (s5, (cI 1))
  else
    if inb ((s5.1 52 13) - (cI 1)) 10 = true then
    ltI (s5.1 (63 + (ix (cI 3))) (ix ((s5.1 52 13) - (cI 1)))) fun v6 =>
    if inb ((s5.1 52 13) - (cI 1)) 10 = true then
    ltI (v6 + (s5.1 (63 + (ix (cI 0))) (ix ((s5.1 52 13) - (cI 1))))) fun v7 =>
    bd1 (fSheet_wordEnd s5 v6 v7) fun v8 =>
    bd1 (fSheet_numberOf s5 v6 v8 (cI 5)) fun v9 =>
    if v9 = (cI (-1)) then
      some (s5, (cI 2))
    else
      bd1 (fBook_placeOf s5 v9) fun v10 =>
      if v10 = (cI (-1)) then
        some (s5, (cI 3))
      else
        if inb ((s5.1 52 13) - (cI 2)) 10 = true then
        ltI (s5.1 (63 + (ix (cI 3))) (ix ((s5.1 52 13) - (cI 2)))) fun v11 =>
        if inb ((s5.1 52 13) - (cI 2)) 10 = true then
        ltI (v11 + (s5.1 (63 + (ix (cI 0))) (ix ((s5.1 52 13) - (cI 2))))) fun v12 =>
        bd1 (fSheet_lastWordOf s5 v11 v12) fun v13 =>
        if v13 ≤ v11 then
          fSheet_reading_b139 s5 v11 v10 v13 (cI (-1))
        else
          bd1 (fSheet_numberOf s5 v13 v12 (cI 3)) fun v14 =>
          fSheet_reading_b139 s5 v11 v10 v13 v14
        else none
        else none
    else none
    else none
def fSheet_show_1 (s : ev_M) (a2 : Int32) : Option (ev_M × Int32) :=
  bd1 (fPH_outside s a2 (cI 8) (cI 128)) fun v1 =>
  if v1 = 0 then
    if (s.1 1 1) = 0 then
      some (s, (cI (-102)))
    else
      if a2 = 0 then none else
      if (irem (s.1 1 1) a2) = 0 then
        bd2 (fLog_admits s) fun s2 v3 =>
        if v3 = 0 then
          some (s2, (cI (-104)))
        else
          ltM (wI s2 52 2 (cI 1)) fun s4 =>
          ltM (wI s4 52 4 a2) fun s5 =>
          if a2 = 0 then none else
          ltM (wI s5 52 5 ((s5.1 1 1) / a2)) fun s6 =>
          bd1 (fSheet_darken_1 s6) fun s7 =>
          bd1 (fSheet_findParts s7) fun s8 =>
          bd1 (fSheet_joinLines s8) fun s9 =>
          bd1 (fSheet_orderParts s9) fun s10 =>
          bd1 (fSheet_keepLines s10) fun s11 =>
          bd2 (fSheet_reading s11) fun s12 v13 =>
          some (s12, v13)
      else
        some (s, (cI (-102)))
  else
    some (s, (cI (-102)))
def fChron_keep_b184 (s : ev_M) (x1 : Int32) (x5 : Int32) : Option ev_M :=
  if inb x5 5000 = true then
  if (s.1 22 (ix x5)) = (cI (-1)) then
    if inb x1 300 = true then
    ltM (wI s 21 (ix x1) x5) fun s1 =>
    some s1
    else none
  else
    some s
  else none
def fChron_keep_b158 (s : ev_M) (x1 : Int32) (x5 : Int32) (x6 : Int32) : Option ev_M :=
  if x6 = (cI (-1)) then
    if inb x1 300 = true then
    ltM (wI s 20 (ix x1) x5) fun s2 =>
    fChron_keep_b184 s2 x1 x5
    else none
  else
    if inb x6 5000 = true then
    ltM (wI s 22 (ix x6) x5) fun s3 =>
    fChron_keep_b184 s3 x1 x5
    else none
def fChron_keep_b149 (s : ev_M) (x1 : Int32) (x5 : Int32) (x6 : Int32) (x7 : Int32) : Option ev_M :=
  if inb x5 5000 = true then
  ltM (wI s 22 (ix x5) x7) fun s4 =>
  fChron_keep_b158 s4 x1 x5 x6
  else none
def fChron_keep_h103 : Nat → ev_M → Int32 → Int32 → Int32 → Int32 → Int32 → Int32 → Option ev_M
  | 0, _, _, _, _, _, _, _ => none
  | n + 1, s, x1, x4, x5, x6, x7, x8 =>
    if x8 < x5 then
      if x7 = (cI (-1)) then
        fChron_keep_b149 s x1 x5 x6 x7
      else
        if inb x7 5000 = true then
        if (s.1 (17 + (ix (cI 2))) (ix x7)) ≤ x4 then
          if inb x7 5000 = true then
          ltI (s.1 22 (ix x7)) fun v5 =>
          (fChron_keep_h103 n) s x1 x4 x5 x7 v5 (x8 + cI 1)
          else none
        else
          fChron_keep_b149 s x1 x5 x6 x7
        else none
    else
      fChron_keep_b149 s x1 x5 x6 x7
def fChron_keep (s : ev_M) (a1 : Int32) (a2 : Int32) (a3 : Int32) (a4 : Int32) : Option ev_M :=
  ltM (wI s 15 2 ((s.1 15 2) + (cI 1))) fun s6 =>
  ltI (s.1 15 2) fun v7 =>
  if v7 < (cI 5000) then
    if inb v7 5000 = true then
    ltM (wI s6 (17 + (ix (cI 0))) (ix v7) a2) fun s8 =>
    if inb v7 5000 = true then
    ltM (wI s8 (17 + (ix (cI 1))) (ix v7) a3) fun s9 =>
    if inb v7 5000 = true then
    ltM (wI s9 (17 + (ix (cI 2))) (ix v7) a4) fun s10 =>
    if inb v7 5000 = true then
    ltM (wI s10 22 (ix v7) (cI (-1))) fun s11 =>
    if inb a1 300 = true then
    ltI (s11.1 21 (ix a1)) fun v12 =>
    if v12 = (cI (-1)) then
      fChron_keep_b158 s11 a1 v7 v12
    else
      if inb v12 5000 = true then
      if (s11.1 (17 + (ix (cI 2))) (ix v12)) ≤ a4 then
        fChron_keep_b158 s11 a1 v7 v12
      else
        if inb a1 300 = true then
        ltI (s11.1 20 (ix a1)) fun v13 =>
        fChron_keep_h103 1048576 s11 a1 a4 v7 (cI (-1)) v13 (cI 0)
        else none
      else none
    else none
    else none
    else none
    else none
    else none
  else
    some s6
def fChron_happen_b87 (s : ev_M) : Option ev_M :=
  ltM (wI s 15 7 ((s.1 15 7) + (cI 1))) fun s1 =>
  some s1
def fChron_happen (s : ev_M) (a1 : Int32) (a2 : Int32) (a3 : Int32) (a4 : Int32) : Option ev_M :=
  bd1 (fChron_keep s a1 a3 a4 (s.1 15 1)) fun s2 =>
  if inb a2 34 = true then
  if (((s2.1 28 (ix a2)) >>> (a3 &&& 31)) &&& (cI 1)) = 0 then
    some s2
  else
    if (s2.1 15 7) < (cI 3000) then
      if inb (s2.1 15 7) 3000 = true then
      ltM (wI s2 (24 + (ix (cI 0))) (ix (s2.1 15 7)) a2) fun s3 =>
      if inb (s3.1 15 7) 3000 = true then
      ltM (wI s3 (24 + (ix (cI 1))) (ix (s3.1 15 7)) a1) fun s4 =>
      if inb (s4.1 15 7) 3000 = true then
      ltM (wI s4 (24 + (ix (cI 2))) (ix (s4.1 15 7)) a3) fun s5 =>
      if inb (s5.1 15 7) 3000 = true then
      ltM (wI s5 (24 + (ix (cI 3))) (ix (s5.1 15 7)) (s5.1 15 1)) fun s6 =>
      fChron_happen_b87 s6
      else none
      else none
      else none
      else none
    else
      fChron_happen_b87 s2
  else none
def fItems_come_b75 (s : ev_M) (x1 : Int32) (x2 : Int32) : Option ev_M :=
  if inb x1 300 = true then
  if inb x1 300 = true then
  bd1 (fChron_happen s x1 (s.1 (102 + (ix (cI 4))) (ix x1)) x2 (s.1 (102 + (ix (cI 8))) (ix x1))) fun s1 =>
  some s1
  else none
  else none
def fItems_come_b49 (s : ev_M) (x1 : Int32) (x2 : Int32) : Option ev_M :=
  if x2 = (cI 6) then
    fItems_come_b75 s x1 x2
  else
    if inb x1 300 = true then
    ltM (wI s (102 + (ix (cI 14))) (ix x1) (cI (-1))) fun s2 =>
    if inb x1 300 = true then
    ltM (wI s2 (102 + (ix (cI 15))) (ix x1) (cI (-1))) fun s3 =>
    fItems_come_b75 s3 x1 x2
    else none
    else none
def fItems_come_b34 (s : ev_M) (x1 : Int32) (x2 : Int32) : Option ev_M :=
  if x2 = (cI 2) then
    fItems_come_b49 s x1 x2
  else
    if inb x1 300 = true then
    ltM (wI s (102 + (ix (cI 9))) (ix x1) (cI (-1))) fun s4 =>
    fItems_come_b49 s4 x1 x2
    else none
def fItems_come (s : ev_M) (a1 : Int32) (a2 : Int32) : Option ev_M :=
  if inb a1 300 = true then
  ltM (wI s (102 + (ix (cI 0))) (ix a1) a2) fun s5 =>
  if a2 = (cI 1) then
    ltM (wI s5 100 6 ((s5.1 100 6) + (cI 1))) fun s6 =>
    if inb a1 300 = true then
    ltM (wI s6 (102 + (ix (cI 17))) (ix a1) (s5.1 100 6)) fun s7 =>
    fItems_come_b34 s7 a1 a2
    else none
  else
    fItems_come_b34 s5 a1 a2
  else none
def fMoney_has (s : ev_M) (a1 : Int32) : Option Int32 :=
  bd1 (fPH_outside s a1 (cI 0) (((cI 4) + (s.1 78 3)) - (cI 1))) fun v1 =>
  if v1 = 0 then
    some (cI 1)
  else
    some (cI 0)
def fMoney_isCustomer (s : ev_M) (a1 : Int32) : Option Int32 :=
  if a1 < (cI 4) then
    some (cI 0)
  else
    bd1 (fMoney_has s a1) fun v1 =>
    if v1 = 0 then
      some (cI 0)
    else
      some (cI 1)
def fItems_tell_h138 : Nat → ev_M → Int32 → Int32 → Int32 → Int32 → Int32 → Int32 → Int32 → Int32 → Option (ev_M × Int32)
  | 0, _, _, _, _, _, _, _, _, _ => none
  | n + 1, s, x1, x2, x3, x4, x5, x6, x8, x9 =>
    if x9 < (cI 22) then
      if inb x9 22 = true then
      if inb x8 300 = true then
      ltM (wI s (102 + (ix x9)) (ix x8) (cI (-1))) fun s1 =>
      (fItems_tell_h138 n) s1 x1 x2 x3 x4 x5 x6 x8 (x9 + cI 1)
      else none
      else none
    else
      if inb x8 300 = true then
      ltM (wI s (102 + (ix (cI 1))) (ix x8) x1) fun s2 =>
      if inb x8 300 = true then
      ltM (wI s2 (102 + (ix (cI 2))) (ix x8) x2) fun s3 =>
      if inb x8 300 = true then
      ltM (wI s3 (102 + (ix (cI 3))) (ix x8) x3) fun s4 =>
      if inb x8 300 = true then
      ltM (wI s4 (102 + (ix (cI 4))) (ix x8) x4) fun s5 =>
      if inb x8 300 = true then
      ltM (wI s5 (102 + (ix (cI 5))) (ix x8) x5) fun s6 =>
      if inb x8 300 = true then
      ltM (wI s6 (102 + (ix (cI 6))) (ix x8) x6) fun s7 =>
      if inb x8 300 = true then
      ltM (wI s7 (102 + (ix (cI 10))) (ix x8) (cI 0)) fun s8 =>
      if inb x8 300 = true then
      ltM (wI s8 (102 + (ix (cI 13))) (ix x8) (cI 0)) fun s9 =>
      if inb x8 300 = true then
      ltM (wI s9 (102 + (ix (cI 18))) (ix x8) (cI 0)) fun s10 =>
      if inb x8 300 = true then
      ltM (wI s10 (102 + (ix (cI 19))) (ix x8) (cI 0)) fun s11 =>
      bd1 (fItems_come s11 x8 (cI 0)) fun s12 =>
      some (s12, x8)
      else none
      else none
      else none
      else none
      else none
      else none
      else none
      else none
      else none
      else none
def fItems_tell_b99 (s : ev_M) (x1 : Int32) (x2 : Int32) (x3 : Int32) (x4 : Int32) (x5 : Int32) (x6 : Int32) : Option (ev_M × Int32) :=
  if (s.1 100 5) < (cI 300) then
    bd2 (fLog_admits s) fun s13 v14 =>
    if v14 = 0 then
      some (s13, (cI (-104)))
    else
      ltM (wI s13 100 5 ((s13.1 100 5) + (cI 1))) fun s15 =>
      ltI (s13.1 100 5) fun v16 =>
      fItems_tell_h138 1048576 s15 x1 x2 x3 x4 x5 x6 v16 (cI 0)
  else
    some (s, (cI (-104)))
def fItems_tell_b70 (s : ev_M) (x1 : Int32) (x2 : Int32) (x3 : Int32) (x4 : Int32) (x5 : Int32) (x6 : Int32) (y0 : Int32) : Option (ev_M × Int32) :=
  if y0 = 0 then
    if x6 = 0 then
      fItems_tell_b99 s x1 x2 x3 x4 x5 x6
    else
      some (s, (cI (-102)))
  else
    bd1 (fPH_outside s x6 (cI 1) (cI 100000)) fun v17 =>
    if v17 = 0 then
      fItems_tell_b99 s x1 x2 x3 x4 x5 x6
    else
      some (s, (cI (-102)))
def fItems_tell (s : ev_M) (a1 : Int32) (a2 : Int32) (a3 : Int32) (a4 : Int32) (a5 : Int32) (a6 : Int32) : Option (ev_M × Int32) :=
  bd1 (fMoney_isCustomer s a4) fun v18 =>
  if v18 = 0 then
    some (s, (cI (-101)))
  else
    bd1 (fPH_outside s a1 (cI 0) (cI 3)) fun v19 =>
    if v19 = 0 then
      bd1 (fPH_outside s a2 (cI 1) (cI 30000)) fun v20 =>
      if v20 = 0 then
        bd1 (fPH_outside s a3 (cI 0) (cI 7)) fun v21 =>
        if v21 = 0 then
          bd1 (fPH_outside s a5 (cI 1) (cI 99)) fun v22 =>
          if v22 = 0 then
            if (a3 &&& (cI 2)) = 0 then
              fItems_tell_b70 s a1 a2 a3 a4 a5 a6 (cI 0)
            else
              fItems_tell_b70 s a1 a2 a3 a4 a5 a6 (cI 1)
          else
            some (s, (cI (-102)))
        else
          some (s, (cI (-102)))
      else
        some (s, (cI (-102)))
    else
      some (s, (cI (-102)))
def fItems_has (s : ev_M) (a1 : Int32) : Option Int32 :=
  bd1 (fPH_outside s a1 (cI 0) ((s.1 100 5) - (cI 1))) fun v1 =>
  if v1 = 0 then
    some (cI 1)
  else
    some (cI 0)
def fItems_is (s : ev_M) (a1 : Int32) (a2 : Int32) : Option Int32 :=
  if inb a1 300 = true then
  if (s.1 (102 + (ix (cI 0))) (ix a1)) = a2 then
    some (cI 1)
  else
    some (cI 0)
  else none
def fItems_isAtHand_b18 (s : ev_M) : Option Int32 :=
  some (cI 1)
def fItems_isAtHand (s : ev_M) (a1 : Int32) : Option Int32 :=
  bd1 (fItems_is s a1 (cI 0)) fun v1 =>
  if v1 = 0 then
    bd1 (fItems_is s a1 (cI 1)) fun v2 =>
    if v2 = 0 then
      some (cI 0)
    else
      fItems_isAtHand_b18 s
  else
    fItems_isAtHand_b18 s
def fItems_fixAddress (s : ev_M) (a1 : Int32) (a2 : Int32) : Option ev_M :=
  if inb a1 300 = true then
  ltM (wI s (102 + (ix (cI 7))) (ix a1) a2) fun s1 =>
  if inb a1 300 = true then
  ltM (wI s1 (102 + (ix (cI 13))) (ix a1) (cI 0)) fun s2 =>
  some s2
  else none
  else none
def fItems_setAddress (s : ev_M) (a1 : Int32) (a2 : Int32) : Option (ev_M × Int32) :=
  bd1 (fItems_has s a1) fun v1 =>
  if v1 = 0 then
    some (s, (cI (-101)))
  else
    bd1 (fBook_hasPoint s a2) fun v2 =>
    if v2 = 0 then
      some (s, (cI (-101)))
    else
      if inb a1 300 = true then
      if (s.1 (102 + (ix (cI 7))) (ix a1)) = (cI (-1)) then
        bd1 (fItems_isAtHand s a1) fun v3 =>
        if v3 = 0 then
          some (s, (cI (-103)))
        else
          bd2 (fLog_admits s) fun s4 v5 =>
          if v5 = 0 then
            some (s4, (cI (-104)))
          else
            bd1 (fItems_fixAddress s4 a1 a2) fun s6 =>
            some (s6, (cI 1))
      else
        some (s, (cI (-103)))
      else none
def fItems_takeReading (s : ev_M) (a1 : Int32) : Option (ev_M × Int32) :=
  bd1 (fItems_has s a1) fun v1 =>
  if v1 = 0 then
    some (s, (cI (-101)))
  else
    if (s.1 52 2) = 0 then
      some (s, (cI (-103)))
    else
      if inb a1 300 = true then
      if (s.1 (102 + (ix (cI 7))) (ix a1)) = (cI (-1)) then
        if inb a1 300 = true then
        if (s.1 (102 + (ix (cI 13))) (ix a1)) = 0 then
          bd1 (fItems_isAtHand s a1) fun v2 =>
          if v2 = 0 then
            some (s, (cI (-103)))
          else
            bd2 (fLog_admits s) fun s3 v4 =>
            if v4 = 0 then
              some (s3, (cI (-104)))
            else
              if (s3.1 52 3) = (cI (-1)) then
                if inb a1 300 = true then
                ltM (wI s3 (102 + (ix (cI 13))) (ix a1) (cI 1)) fun s5 =>
                some (s5, (cI 0))
                else none
              else
                bd1 (fItems_fixAddress s3 a1 (s3.1 52 3)) fun s6 =>
                some (s6, (cI 1))
        else
          some (s, (cI (-103)))
        else none
      else
        some (s, (cI (-103)))
      else none
def fItems_hearClerk_b185 (s : ev_M) (x1 : Int32) : Option (ev_M × Int32) :=
  if inb x1 300 = true then
  ltM (wI s (102 + (ix (cI 13))) (ix x1) (cI 2)) fun s1 =>
  some (s1, (cI 2))
  else none
def fItems_hearClerk_b213 (s : ev_M) (x1 : Int32) (x3 : Int32) (y1 : Int32) : Option (ev_M × Int32) :=
  if inb y1 22 = true then
  if inb x1 300 = true then
  ltM (wI s (102 + (ix y1)) (ix x1) x3) fun s2 =>
  some (s2, (cI 0))
  else none
  else none
def fItems_hearClerk_b174 (s : ev_M) (x1 : Int32) (x3 : Int32) (x5 : Int32) (x6 : Int32) : Option (ev_M × Int32) :=
  if x6 = 0 then
    if x5 < (cI 2) then
      if x5 = 0 then
        fItems_hearClerk_b213 s x1 x3 (cI 20)
      else
        fItems_hearClerk_b213 s x1 x3 (cI 21)
    else
      fItems_hearClerk_b185 s x1
  else
    fItems_hearClerk_b185 s x1
def fItems_hearClerk_b139 (s : ev_M) (x1 : Int32) (x2 : Int32) (x3 : Int32) (x4 : Int32) (x5 : Int32) (y0 : Int32) : Option (ev_M × Int32) :=
  if inb x1 300 = true then
  ltM (wI s (102 + (ix (cI 19))) (ix x1) (x4 ||| ((cI 1) <<< (x2 &&& 31)))) fun s3 =>
  if y0 = 0 then
    fItems_hearClerk_b174 s3 x1 x3 x5 y0
  else
    if x3 = (cI (-1)) then
      fItems_hearClerk_b174 s3 x1 x3 x5 y0
    else
      bd1 (fItems_fixAddress s3 x1 x3) fun s4 =>
      some (s4, (cI 1))
  else none
def fItems_hearClerk_b134 (s : ev_M) (x1 : Int32) (x2 : Int32) (x3 : Int32) (x4 : Int32) (x5 : Int32) : Option (ev_M × Int32) :=
  fItems_hearClerk_b139 s x1 x2 x3 x4 x5 (cI 1)
def fItems_hearClerk_b138 (s : ev_M) (x1 : Int32) (x2 : Int32) (x3 : Int32) (x4 : Int32) (x5 : Int32) : Option (ev_M × Int32) :=
  fItems_hearClerk_b139 s x1 x2 x3 x4 x5 (cI 0)
def fItems_hearClerk_b115 (s : ev_M) (x1 : Int32) (x2 : Int32) (x3 : Int32) (x4 : Int32) (x5 : Int32) : Option (ev_M × Int32) :=
  if x5 < (cI 2) then
    fItems_hearClerk_b138 s x1 x2 x3 x4 x5
  else
    if inb x1 300 = true then
    if (s.1 (102 + (ix (cI 21))) (ix x1)) = x3 then
      fItems_hearClerk_b134 s x1 x2 x3 x4 x5
    else
      fItems_hearClerk_b138 s x1 x2 x3 x4 x5
    else none
def fItems_hearClerk_b27 (s : ev_M) (x1 : Int32) (x2 : Int32) (x3 : Int32) : Option (ev_M × Int32) :=
  bd1 (fPH_outside s x2 (cI 0) (cI 9)) fun v5 =>
  if v5 = 0 then
    if inb x1 300 = true then
    ltI (s.1 (102 + (ix (cI 19))) (ix x1)) fun v6 =>
    if inb x1 300 = true then
    if (s.1 (102 + (ix (cI 13))) (ix x1)) = (cI 1) then
      if ((v6 >>> (x2 &&& 31)) &&& (cI 1)) = 0 then
        bd2 (fLog_admits s) fun s7 v8 =>
        if v8 = 0 then
          some (s7, (cI (-104)))
        else
          bd1 (fInt_bitCount s7 v6) fun v9 =>
          if v9 < (cI 1) then
            fItems_hearClerk_b115 s7 x1 x2 x3 v6 v9
          else
            if inb x1 300 = true then
            if (s7.1 (102 + (ix (cI 20))) (ix x1)) = x3 then
              fItems_hearClerk_b134 s7 x1 x2 x3 v6 v9
            else
              fItems_hearClerk_b115 s7 x1 x2 x3 v6 v9
            else none
      else
        some (s, (cI (-103)))
    else
      some (s, (cI (-103)))
    else none
    else none
  else
    some (s, (cI (-102)))
def fItems_hearClerk (s : ev_M) (a1 : Int32) (a2 : Int32) (a3 : Int32) : Option (ev_M × Int32) :=
  bd1 (fItems_has s a1) fun v10 =>
  if v10 = 0 then
    some (s, (cI (-101)))
  else
    if a3 = (cI (-1)) then
      fItems_hearClerk_b27 s a1 a2 a3
    else
      bd1 (fBook_hasPoint s a3) fun v11 =>
      if v11 = 0 then
        some (s, (cI (-101)))
      else
        fItems_hearClerk_b27 s a1 a2 a3
def fBook_hasPlace (s : ev_M) (a1 : Int32) : Option Int32 :=
  bd1 (fPH_outside s a1 (cI 0) ((s.1 30 2) - (cI 1))) fun v1 =>
  if v1 = 0 then
    some (cI 1)
  else
    some (cI 0)
def fItems_comeInAt (s : ev_M) (a1 : Int32) (a2 : Int32) : Option ev_M :=
  if inb a1 300 = true then
  ltM (wI s (102 + (ix (cI 8))) (ix a1) a2) fun s1 =>
  bd1 (fItems_come s1 a1 (cI 1)) fun s2 =>
  some s2
  else none
def fItems_postAt (s : ev_M) (a1 : Int32) (a2 : Int32) : Option (ev_M × Int32) :=
  bd1 (fItems_has s a1) fun v1 =>
  if v1 = 0 then
    some (s, (cI (-101)))
  else
    bd1 (fBook_hasPlace s a2) fun v2 =>
    if v2 = 0 then
      some (s, (cI (-101)))
    else
      bd1 (fItems_is s a1 (cI 0)) fun v3 =>
      if v3 = 0 then
        some (s, (cI (-103)))
      else
        bd2 (fLog_admits s) fun s4 v5 =>
        if v5 = 0 then
          some (s4, (cI (-104)))
        else
          bd1 (fItems_comeInAt s4 a1 a2) fun s6 =>
          some (s6, (cI 1))
def fRounds_setMachine (s : ev_M) (a1 : Int32) (a2 : Int32) (a3 : Int32) (a4 : Int32) : Option (ev_M × Int32) :=
  bd1 (fPH_outside s a1 (cI 2) (cI 16)) fun v1 =>
  if v1 = 0 then
    bd1 (fPH_outside s a2 (cI 1) (cI 2000)) fun v2 =>
    if v2 = 0 then
      bd1 (fPH_outside s a3 (cI 1) (cI 500)) fun v3 =>
      if v3 = 0 then
        bd1 (fPH_outside s a4 (cI 0) (cI 4000)) fun v4 =>
        if v4 = 0 then
          bd2 (fLog_admits s) fun s5 v6 =>
          if v6 = 0 then
            some (s5, (cI (-104)))
          else
            ltM (wI s5 172 (ix (cI 0)) a1) fun s7 =>
            ltM (wI s7 172 (ix (cI 1)) a2) fun s8 =>
            ltM (wI s8 172 (ix (cI 2)) a3) fun s9 =>
            ltM (wI s9 172 (ix (cI 3)) a4) fun s10 =>
            some (s10, (cI 1))
        else
          some (s, (cI (-102)))
      else
        some (s, (cI (-102)))
    else
      some (s, (cI (-102)))
  else
    some (s, (cI (-102)))
def fRounds_make (s : ev_M) (a1 : Int32) (a2 : Int32) (a3 : Int32) : Option (ev_M × Int32) :=
  bd1 (fBook_hasPlace s a1) fun v1 =>
  if v1 = 0 then
    some (s, (cI (-101)))
  else
    bd1 (fPH_outside s a2 (cI (-2000)) (cI 2000)) fun v2 =>
    if v2 = 0 then
      bd1 (fPH_outside s a3 (cI (-2000)) (cI 2000)) fun v3 =>
      if v3 = 0 then
        if (s.1 138 3) < (cI 12) then
          bd2 (fLog_admits s) fun s4 v5 =>
          if v5 = 0 then
            some (s4, (cI (-104)))
          else
            if inb (s4.1 138 3) 12 = true then
            ltM (wI s4 (140 + (ix (cI 0))) (ix (s4.1 138 3)) a1) fun s6 =>
            if inb (s6.1 138 3) 12 = true then
            ltM (wI s6 (140 + (ix (cI 1))) (ix (s6.1 138 3)) a2) fun s7 =>
            if inb (s7.1 138 3) 12 = true then
            ltM (wI s7 (140 + (ix (cI 2))) (ix (s7.1 138 3)) a3) fun s8 =>
            if inb (s8.1 138 3) 12 = true then
            ltM (wI s8 (140 + (ix (cI 3))) (ix (s8.1 138 3)) (cI 0)) fun s9 =>
            if inb (s9.1 138 3) 12 = true then
            ltM (wI s9 (140 + (ix (cI 4))) (ix (s9.1 138 3)) (cI 0)) fun s10 =>
            ltM (wI s10 138 3 ((s10.1 138 3) + (cI 1))) fun s11 =>
            some (s11, (s10.1 138 3))
            else none
            else none
            else none
            else none
            else none
        else
          some (s, (cI (-104)))
      else
        some (s, (cI (-102)))
    else
      some (s, (cI (-102)))
def fRounds_has (s : ev_M) (a1 : Int32) : Option Int32 :=
  bd1 (fPH_outside s a1 (cI 0) ((s.1 138 3) - (cI 1))) fun v1 =>
  if v1 = 0 then
    some (cI 1)
  else
    some (cI 0)
def fBook_placeOfPoint (s : ev_M) (a1 : Int32) : Option Int32 :=
  if inb a1 120 = true then
  if inb (s.1 (44 + (ix (cI 0))) (ix a1)) 30 = true then
  some (s.1 (33 + (ix (cI 3))) (ix (s.1 (44 + (ix (cI 0))) (ix a1))))
  else none
  else none
def fRounds_addStop (s : ev_M) (a1 : Int32) (a2 : Int32) : Option (ev_M × Int32) :=
  bd1 (fBook_hasPoint s a1) fun v1 =>
  if v1 = 0 then
    some (s, (cI (-101)))
  else
    bd1 (fRounds_has s a2) fun v2 =>
    if v2 = 0 then
      some (s, (cI (-101)))
    else
      bd1 (fBook_placeOfPoint s a1) fun v3 =>
      if inb a2 12 = true then
      if v3 = (s.1 (140 + (ix (cI 0))) (ix a2)) then
        if inb a1 120 = true then
        if (s.1 158 (ix a1)) = (cI (-1)) then
          if inb a2 12 = true then
          if (s.1 (140 + (ix (cI 3))) (ix a2)) < (cI 20) then
            bd2 (fLog_admits s) fun s4 v5 =>
            if v5 = 0 then
              some (s4, (cI (-104)))
            else
              if inb a1 120 = true then
              ltM (wI s4 158 (ix a1) a2) fun s6 =>
              if inb a2 12 = true then
              if inb a2 12 = true then
              if inb a2 12 = true then
              ltM (wI s6 (140 + (ix (cI 3))) (ix a2) ((s6.1 (140 + (ix (cI 3))) (ix a2)) + (cI 1))) fun s7 =>
              if inb (s6.1 (140 + (ix (cI 3))) (ix a2)) 20 = true then
              ltM (wI s7 (146 + (ix a2)) (ix (s6.1 (140 + (ix (cI 3))) (ix a2))) a1) fun s8 =>
              if inb a2 12 = true then
              some (s8, (s8.1 (140 + (ix (cI 3))) (ix a2)))
              else none
              else none
              else none
              else none
              else none
              else none
          else
            some (s, (cI (-104)))
          else none
        else
          some (s, (cI (-103)))
        else none
      else
        some (s, (cI (-103)))
      else none
def fBook_xOf_b57 (s : ev_M) (y0 : Int32) (y1 : Int32) : Option Int32 :=
  some (y0 + y1)
def fBook_xOf (s : ev_M) (a1 : Int32) : Option Int32 :=
  if inb a1 120 = true then
  ltI (s.1 (44 + (ix (cI 0))) (ix a1)) fun v1 =>
  if inb a1 120 = true then
  ltI (s.1 (44 + (ix (cI 1))) (ix a1)) fun v2 =>
  if inb v1 30 = true then
  ltI (s.1 (33 + (ix (cI 2))) (ix v1)) fun v3 =>
  if inb v1 30 = true then
  if v3 = 0 then
    fBook_xOf_b57 s (s.1 (33 + (ix (cI 0))) (ix v1)) v2
  else
    if v3 = (cI 2) then
      fBook_xOf_b57 s (s.1 (33 + (ix (cI 0))) (ix v1)) (-v2)
    else
      fBook_xOf_b57 s (s.1 (33 + (ix (cI 0))) (ix v1)) (cI 0)
  else none
  else none
  else none
  else none
def fMath_abs (s : ev_M) (a0 : Int32) : Option Int32 :=
  if a0 < 0 then
    some (-a0)
  else
    some a0
def fBook_yOf_b58 (s : ev_M) (y0 : Int32) (y1 : Int32) : Option Int32 :=
  some (y0 + y1)
def fBook_yOf (s : ev_M) (a1 : Int32) : Option Int32 :=
  if inb a1 120 = true then
  ltI (s.1 (44 + (ix (cI 0))) (ix a1)) fun v1 =>
  if inb a1 120 = true then
  ltI (s.1 (44 + (ix (cI 1))) (ix a1)) fun v2 =>
  if inb v1 30 = true then
  ltI (s.1 (33 + (ix (cI 2))) (ix v1)) fun v3 =>
  if inb v1 30 = true then
  if v3 = (cI 1) then
    fBook_yOf_b58 s (s.1 (33 + (ix (cI 1))) (ix v1)) v2
  else
    if v3 = (cI 3) then
      fBook_yOf_b58 s (s.1 (33 + (ix (cI 1))) (ix v1)) (-v2)
    else
      fBook_yOf_b58 s (s.1 (33 + (ix (cI 1))) (ix v1)) (cI 0)
  else none
  else none
  else none
  else none
def fRounds_between (s : ev_M) (a1 : Int32) (a2 : Int32) : Option Int32 :=
  bd1 (fBook_xOf s a1) fun v1 =>
  bd1 (fBook_xOf s a2) fun v2 =>
  bd1 (fMath_abs s (v1 - v2)) fun v3 =>
  bd1 (fBook_yOf s a1) fun v4 =>
  bd1 (fBook_yOf s a2) fun v5 =>
  bd1 (fMath_abs s (v4 - v5)) fun v6 =>
  some (v3 + v6)
def fRounds_fromBeginning (s : ev_M) (a1 : Int32) (a2 : Int32) : Option Int32 :=
  bd1 (fBook_xOf s a2) fun v1 =>
  if inb a1 12 = true then
  bd1 (fMath_abs s (v1 - (s.1 (140 + (ix (cI 1))) (ix a1)))) fun v2 =>
  bd1 (fBook_yOf s a2) fun v3 =>
  if inb a1 12 = true then
  bd1 (fMath_abs s (v3 - (s.1 (140 + (ix (cI 2))) (ix a1)))) fun v4 =>
  some (v2 + v4)
  else none
  else none
def fRounds_wayOf_h48 (s : ev_M) : Nat → Int32 → Int32 → Int32 → Int32 → Option Int32
  | 0, _, _, _, _ => none
  | n + 1, x1, x2, x3, x4 =>
    if x4 < x2 then
      if inb x1 12 = true then
      if inb (x4 - (cI 1)) 20 = true then
      if inb x1 12 = true then
      if inb x4 20 = true then
      bd1 (fRounds_between s (s.1 (146 + (ix x1)) (ix (x4 - (cI 1)))) (s.1 (146 + (ix x1)) (ix x4))) fun v1 =>
      ltI (x3 + v1) fun v2 =>
      (fRounds_wayOf_h48 s n) x1 x2 v2 (x4 + cI 1)
      else none
      else none
      else none
      else none
    else
      some x3
def fRounds_wayOf (s : ev_M) (a1 : Int32) : Option Int32 :=
  if inb a1 12 = true then
  ltI (s.1 (140 + (ix (cI 3))) (ix a1)) fun v3 =>
  if v3 = 0 then
    some (cI 0)
  else
    if inb a1 12 = true then
    bd1 (fRounds_fromBeginning s a1 (s.1 (146 + (ix a1)) (ix (cI 0)))) fun v4 =>
    if inb a1 12 = true then
    if inb (v3 - (cI 1)) 20 = true then
    bd1 (fRounds_fromBeginning s a1 (s.1 (146 + (ix a1)) (ix (v3 - (cI 1))))) fun v5 =>
    ltI (v4 + v5) fun v6 =>
    fRounds_wayOf_h48 s 1048576 a1 v3 v6 (cI 1)
    else none
    else none
    else none
  else none
def fRounds_bestNext_b69 (s : ev_M) (k10 : Int32 → Int32 → Int32 → Int32 → Int32 → Int32 → Option Int32) (x1 : Int32) (x2 : Int32) (x3 : Int32) (x4 : Int32) (x5 : Int32) (x6 : Int32) : Option Int32 :=
  k10 x1 x2 x3 x4 x5 (x6 + cI 1)
def fRounds_bestNext_h10 (s : ev_M) : Nat → Int32 → Int32 → Int32 → Int32 → Int32 → Int32 → Option Int32
  | 0, _, _, _, _, _, _ => none
  | n + 1, x1, x2, x3, x4, x5, x6 =>
    if x6 < x1 then
      if ((x2 >>> (x6 &&& 31)) &&& (cI 1)) = 0 then
        fRounds_bestNext_b69 s (fRounds_bestNext_h10 s n) x1 x2 x3 x4 x5 x6
      else
        if inb x3 9 = true then
        if inb x6 9 = true then
        if inb (x2 ^^^ ((cI 1) <<< (x6 &&& 31))) 256 = true then
        if inb x6 8 = true then
        ltI ((s.1 (183 + (ix x3)) (ix x6)) + (s.1 (193 + (ix (x2 ^^^ ((cI 1) <<< (x6 &&& 31))))) (ix x6))) fun v1 =>
        if v1 < x5 then
          fRounds_bestNext_b69 s (fRounds_bestNext_h10 s n) x1 x2 x3 x6 v1 x6
        else
          fRounds_bestNext_b69 s (fRounds_bestNext_h10 s n) x1 x2 x3 x4 x5 x6
        else none
        else none
        else none
        else none
    else
      some x4
def fRounds_bestNext (s : ev_M) (a1 : Int32) (a2 : Int32) (a3 : Int32) : Option Int32 :=
  fRounds_bestNext_h10 s 1048576 a1 a2 a3 (cI (-1)) (cI 2147483647) (cI 0)
def fRounds_measure_h47 (k2 : ev_M → Int32 → Int32 → Int32 → Option ev_M) : Nat → ev_M → Int32 → Int32 → Int32 → Int32 → Option ev_M
  | 0, _, _, _, _, _ => none
  | n + 1, s, x1, x2, x3, x4 =>
    if x4 < x2 then
      if inb x3 9 = true then
      if inb x1 12 = true then
      if inb x3 20 = true then
      if inb x1 12 = true then
      if inb x4 20 = true then
      bd1 (fRounds_between s (s.1 (146 + (ix x1)) (ix x3)) (s.1 (146 + (ix x1)) (ix x4))) fun v1 =>
      if inb x4 9 = true then
      ltM (wI s (183 + (ix x3)) (ix x4) v1) fun s2 =>
      (fRounds_measure_h47 k2 n) s2 x1 x2 x3 (x4 + cI 1)
      else none
      else none
      else none
      else none
      else none
      else none
    else
      k2 s x1 x2 (x3 + cI 1)
def fRounds_measure_h2 : Nat → ev_M → Int32 → Int32 → Int32 → Option ev_M
  | 0, _, _, _, _ => none
  | n + 1, s, x1, x2, x3 =>
    if x3 < x2 then
      if inb x3 9 = true then
      if inb x1 12 = true then
      if inb x3 20 = true then
      bd1 (fRounds_fromBeginning s x1 (s.1 (146 + (ix x1)) (ix x3))) fun v3 =>
      if inb x2 9 = true then
      ltM (wI s (183 + (ix x3)) (ix x2) v3) fun s4 =>
      if inb x2 9 = true then
      if inb x3 9 = true then
      if inb x2 9 = true then
      if inb x3 9 = true then
      ltM (wI s4 (183 + (ix x2)) (ix x3) (s4.1 (183 + (ix x3)) (ix x2))) fun s5 =>
      fRounds_measure_h47 (fRounds_measure_h2 n) 1048576 s5 x1 x2 x3 (cI 0)
      else none
      else none
      else none
      else none
      else none
      else none
      else none
      else none
    else
      some s
def fRounds_measure (s : ev_M) (a1 : Int32) (a2 : Int32) : Option ev_M :=
  fRounds_measure_h2 1048576 s a1 a2 (cI 0)
def fRounds_goLeastWay_b94 (k17 : ev_M → Int32 → Int32 → Int32 → Option ev_M) (k27 : ev_M → Int32 → Int32 → Int32 → Int32 → Option ev_M) (s : ev_M) (x1 : Int32) (x2 : Int32) (x3 : Int32) (x4 : Int32) (m0 : Nat) (y1 : Int32) (y2 : Int32) : Option ev_M :=
  if inb y1 8 = true then
  ltM (wI s (193 + m0) (ix y1) y2) fun s1 =>
  k27 s1 x1 x2 x3 (x4 + cI 1)
  else none
def fRounds_goLeastWay_h27 (k17 : ev_M → Int32 → Int32 → Int32 → Option ev_M) : Nat → ev_M → Int32 → Int32 → Int32 → Int32 → Option ev_M
  | 0, _, _, _, _, _ => none
  | n + 1, s, x1, x2, x3, x4 =>
    if x4 < x2 then
      bd1 (fRounds_bestNext s x2 x3 x4) fun v2 =>
      if inb x3 256 = true then
      if v2 = (cI (-1)) then
        if inb x4 9 = true then
        if inb x2 9 = true then
        fRounds_goLeastWay_b94 k17 (fRounds_goLeastWay_h27 k17 n) s x1 x2 x3 x4 (ix x3) x4 (s.1 (183 + (ix x4)) (ix x2))
        else none
        else none
      else
        if inb x4 9 = true then
        if inb v2 9 = true then
        if inb (x3 ^^^ ((cI 1) <<< (v2 &&& 31))) 256 = true then
        if inb v2 8 = true then
        fRounds_goLeastWay_b94 k17 (fRounds_goLeastWay_h27 k17 n) s x1 x2 x3 x4 (ix x3) x4 ((s.1 (183 + (ix x4)) (ix v2)) + (s.1 (193 + (ix (x3 ^^^ ((cI 1) <<< (v2 &&& 31))))) (ix v2)))
        else none
        else none
        else none
        else none
      else none
    else
      k17 s x1 x2 (x3 + cI 1)
def fRounds_goLeastWay_h119 : Nat → ev_M → Int32 → Int32 → Int32 → Int32 → Int32 → Option ev_M
  | 0, _, _, _, _, _, _ => none
  | n + 1, s, x1, x2, x3, x4, x5 =>
    if x5 < x2 then
      bd1 (fRounds_bestNext s x2 x3 x4) fun v3 =>
      if v3 = (cI (-1)) then
        some s
      else
        ltI (x3 ^^^ ((cI 1) <<< (v3 &&& 31))) fun v4 =>
        if inb x1 12 = true then
        if inb v3 20 = true then
        if inb x5 300 = true then
        ltM (wI s 175 (ix x5) (s.1 (146 + (ix x1)) (ix v3))) fun s5 =>
        (fRounds_goLeastWay_h119 n) s5 x1 x2 v4 v3 (x5 + cI 1)
        else none
        else none
        else none
    else
      if inb x1 12 = true then
      bd1 (fACP s 300 20 175 (146 + (ix x1)) (cI 0) (cI 0) x2) fun s6 =>
      some s6
      else none
def fRounds_goLeastWay_h17 : Nat → ev_M → Int32 → Int32 → Int32 → Option ev_M
  | 0, _, _, _, _ => none
  | n + 1, s, x1, x2, x3 =>
    if x3 < ((cI 1) <<< (x2 &&& 31)) then
      fRounds_goLeastWay_h27 (fRounds_goLeastWay_h17 n) 1048576 s x1 x2 x3 (cI 0)
    else
      ltI (((cI 1) <<< (x2 &&& 31)) - (cI 1)) fun v7 =>
      fRounds_goLeastWay_h119 1048576 s x1 x2 v7 x2 (cI 0)
def fRounds_goLeastWay (s : ev_M) (a1 : Int32) : Option ev_M :=
  if inb a1 12 = true then
  ltI (s.1 (140 + (ix (cI 3))) (ix a1)) fun v8 =>
  bd1 (fRounds_measure s a1 v8) fun s9 =>
  fRounds_goLeastWay_h17 1048576 s9 a1 v8 (cI 0)
  else none
def fRounds_goToNearest_b90 (k9 : ev_M → Int32 → Nat → Int32 → Option ev_M) (k31 : ev_M → Int32 → Nat → Int32 → Int32 → Int32 → Int32 → Option ev_M) (s : ev_M) (x1 : Int32) (i2 : Nat) (x3 : Int32) (x4 : Int32) (x5 : Int32) (x6 : Int32) : Option ev_M :=
  k31 s x1 i2 x3 x4 x5 (x6 + cI 1)
def fRounds_goToNearest_b73 (k9 : ev_M → Int32 → Nat → Int32 → Option ev_M) (k31 : ev_M → Int32 → Nat → Int32 → Int32 → Int32 → Int32 → Option ev_M) (s : ev_M) (x1 : Int32) (i2 : Nat) (x3 : Int32) (x4 : Int32) (x5 : Int32) (x6 : Int32) (y0 : Int32) : Option ev_M :=
  if y0 < x5 then
    fRounds_goToNearest_b90 k9 k31 s x1 i2 x3 x6 y0 x6
  else
    fRounds_goToNearest_b90 k9 k31 s x1 i2 x3 x4 x5 x6
def fRounds_goToNearest_h106 (k9 : ev_M → Int32 → Nat → Int32 → Option ev_M) : Nat → ev_M → Int32 → Nat → Int32 → Int32 → Int32 → Option ev_M
  | 0, _, _, _, _, _, _ => none
  | n + 1, s, x1, i2, x3, x6, x7 =>
    if x7 ≤ x3 then
      if inb x3 20 = true then
      ltM (wI s (146 + i2) (ix x3) x6) fun s1 =>
      k9 s1 x1 i2 (x3 + cI 1)
      else none
    else
      if inb (x7 - (cI 1)) 20 = true then
      if inb x7 20 = true then
      ltM (wI s (146 + i2) (ix x7) (s.1 (146 + i2) (ix (x7 - (cI 1))))) fun s2 =>
      (fRounds_goToNearest_h106 k9 n) s2 x1 i2 x3 x6 (x7 + cI (-1))
      else none
      else none
def fRounds_goToNearest_h31 (k9 : ev_M → Int32 → Nat → Int32 → Option ev_M) : Nat → ev_M → Int32 → Nat → Int32 → Int32 → Int32 → Int32 → Option ev_M
  | 0, _, _, _, _, _, _, _ => none
  | n + 1, s, x1, i2, x3, x4, x5, x6 =>
    if inb x1 12 = true then
    if x6 < (s.1 (140 + (ix (cI 3))) (ix x1)) then
      if x3 = 0 then
        if inb x6 20 = true then
        bd1 (fRounds_fromBeginning s x1 (s.1 (146 + i2) (ix x6))) fun v3 =>
        fRounds_goToNearest_b73 k9 (fRounds_goToNearest_h31 k9 n) s x1 i2 x3 x4 x5 x6 v3
        else none
      else
        if inb (x3 - (cI 1)) 20 = true then
        if inb x6 20 = true then
        bd1 (fRounds_between s (s.1 (146 + i2) (ix (x3 - (cI 1)))) (s.1 (146 + i2) (ix x6))) fun v4 =>
        fRounds_goToNearest_b73 k9 (fRounds_goToNearest_h31 k9 n) s x1 i2 x3 x4 x5 x6 v4
        else none
        else none
    else
      if inb x4 20 = true then
      ltI (s.1 (146 + i2) (ix x4)) fun v5 =>
      fRounds_goToNearest_h106 k9 1048576 s x1 i2 x3 v5 x4
      else none
    else none
def fRounds_goToNearest_h9 : Nat → ev_M → Int32 → Nat → Int32 → Option ev_M
  | 0, _, _, _, _ => none
  | n + 1, s, x1, i2, x3 =>
    if inb x1 12 = true then
    if x3 < (s.1 (140 + (ix (cI 3))) (ix x1)) then
      fRounds_goToNearest_h31 (fRounds_goToNearest_h9 n) 1048576 s x1 i2 x3 x3 (cI 2147483647) x3
    else
      some s
    else none
def fRounds_goToNearest (s : ev_M) (a1 : Int32) : Option ev_M :=
  if inb a1 12 = true then
  fRounds_goToNearest_h9 1048576 s a1 (ix a1) (cI 0)
  else none
def fRounds_arrangeStops_b91 (k43 : ev_M → Int32 → Int32 → Nat → Int32 → Option (ev_M × Int32)) (s : ev_M) (x1 : Int32) (x2 : Int32) (i3 : Nat) (x4 : Int32) (x5 : Int32) (x6 : Int32) : Option (ev_M × Int32) :=
  if inb x6 20 = true then
  ltM (wI s (146 + i3) (ix x6) x5) fun s1 =>
  k43 s1 x1 x2 i3 (x4 + cI 1)
  else none
def fRounds_arrangeStops_h59 (k43 : ev_M → Int32 → Int32 → Nat → Int32 → Option (ev_M × Int32)) : Nat → ev_M → Int32 → Int32 → Nat → Int32 → Int32 → Int32 → Option (ev_M × Int32)
  | 0, _, _, _, _, _, _, _ => none
  | n + 1, s, x1, x2, i3, x4, x5, x6 =>
    if x6 ≤ 0 then
      fRounds_arrangeStops_b91 k43 s x1 x2 i3 x4 x5 x6
    else
      if inb (x6 - (cI 1)) 20 = true then
      if (s.1 (146 + i3) (ix (x6 - (cI 1)))) ≤ x5 then
        fRounds_arrangeStops_b91 k43 s x1 x2 i3 x4 x5 x6
      else
        if inb (x6 - (cI 1)) 20 = true then
        if inb x6 20 = true then
        ltM (wI s (146 + i3) (ix x6) (s.1 (146 + i3) (ix (x6 - (cI 1))))) fun s2 =>
        (fRounds_arrangeStops_h59 k43 n) s2 x1 x2 i3 x4 x5 (x6 + cI (-1))
        else none
        else none
      else none
def fRounds_arrangeStops_b122 (s : ev_M) (x1 : Int32) : Option (ev_M × Int32) :=
  bd1 (fRounds_wayOf s x1) fun v3 =>
  some (s, v3)
def fRounds_arrangeStops_h43 : Nat → ev_M → Int32 → Int32 → Nat → Int32 → Option (ev_M × Int32)
  | 0, _, _, _, _, _ => none
  | n + 1, s, x1, x2, i3, x4 =>
    if x4 < x2 then
      if inb x4 20 = true then
      ltI (s.1 (146 + i3) (ix x4)) fun v4 =>
      fRounds_arrangeStops_h59 (fRounds_arrangeStops_h43 n) 1048576 s x1 x2 i3 x4 v4 x4
      else none
    else
      if x2 ≤ (cI 8) then
        bd1 (fRounds_goLeastWay s x1) fun s5 =>
        fRounds_arrangeStops_b122 s5 x1
      else
        bd1 (fRounds_goToNearest s x1) fun s6 =>
        fRounds_arrangeStops_b122 s6 x1
def fRounds_arrangeStops (s : ev_M) (a1 : Int32) : Option (ev_M × Int32) :=
  bd1 (fRounds_has s a1) fun v7 =>
  if v7 = 0 then
    some (s, (cI (-101)))
  else
    bd2 (fLog_admits s) fun s8 v9 =>
    if v9 = 0 then
      some (s8, (cI (-104)))
    else
      if inb a1 12 = true then
      ltI (s8.1 (140 + (ix (cI 3))) (ix a1)) fun v10 =>
      if inb a1 12 = true then
      fRounds_arrangeStops_h43 1048576 s8 a1 v10 (ix a1) (cI 1)
      else none
      else none
def fRounds_addStray_b48 (s : ev_M) (x1 : Int32) (x2 : Int32) : Option ev_M :=
  if inb x2 300 = true then
  ltM (wI s 173 (ix x2) x1) fun s1 =>
  some s1
  else none
def fRounds_addStray_h12 : Nat → ev_M → Int32 → Int32 → Option ev_M
  | 0, _, _, _ => none
  | n + 1, s, x1, x2 =>
    if x2 ≤ 0 then
      fRounds_addStray_b48 s x1 x2
    else
      if inb (x2 - (cI 1)) 300 = true then
      if (s.1 173 (ix (x2 - (cI 1)))) ≤ x1 then
        fRounds_addStray_b48 s x1 x2
      else
        if inb (x2 - (cI 1)) 300 = true then
        if inb x2 300 = true then
        ltM (wI s 173 (ix x2) (s.1 173 (ix (x2 - (cI 1))))) fun s2 =>
        (fRounds_addStray_h12 n) s2 x1 (x2 + cI (-1))
        else none
        else none
      else none
def fRounds_addStray (s : ev_M) (a1 : Int32) : Option ev_M :=
  ltM (wI s 138 10 ((s.1 138 10) + (cI 1))) fun s3 =>
  ltI (s.1 138 10) fun v4 =>
  fRounds_addStray_h12 1048576 s3 a1 v4
def fRounds_keepSorted_b69 (k2 : ev_M → Int32 → Int32 → Option ev_M) (s : ev_M) (x1 : Int32) (x2 : Int32) : Option ev_M :=
  k2 s x1 (x2 + cI 1)
def fRounds_keepSorted_b117 (k82 : ev_M → Int32 → Option ev_M) (s : ev_M) (x2 : Int32) : Option ev_M :=
  k82 s (x2 + cI 1)
def fRounds_keepSorted_h82 : Nat → ev_M → Int32 → Option ev_M
  | 0, _, _ => none
  | n + 1, s, x2 =>
    if x2 < (s.1 138 12) then
      if inb x2 300 = true then
      if inb (s.1 174 (ix x2)) 300 = true then
      if (s.1 (177 + (ix (cI 2))) (ix (s.1 174 (ix x2)))) = (cI 1) then
        if inb x2 300 = true then
        bd1 (fRounds_addStray s (s.1 174 (ix x2))) fun s1 =>
        fRounds_keepSorted_b117 (fRounds_keepSorted_h82 n) s1 x2
        else none
      else
        fRounds_keepSorted_b117 (fRounds_keepSorted_h82 n) s x2
      else none
      else none
    else
      some s
def fRounds_keepSorted_h2 : Nat → ev_M → Int32 → Int32 → Option ev_M
  | 0, _, _, _ => none
  | n + 1, s, x1, x2 =>
    if x2 < (s.1 138 12) then
      if inb x2 300 = true then
      ltI (s.1 174 (ix x2)) fun v2 =>
      if inb x2 300 = true then
      ltM (wI s 175 (ix x2) v2) fun s3 =>
      if inb v2 300 = true then
      if (s3.1 (177 + (ix (cI 2))) (ix v2)) = (cI 1) then
        fRounds_keepSorted_b69 (fRounds_keepSorted_h2 n) s3 x1 x2
      else
        if inb x1 12 = true then
        if inb x1 12 = true then
        if inb x1 12 = true then
        ltM (wI s3 (140 + (ix (cI 4))) (ix x1) ((s3.1 (140 + (ix (cI 4))) (ix x1)) + (cI 1))) fun s4 =>
        if inb (s3.1 (140 + (ix (cI 4))) (ix x1)) 300 = true then
        ltM (wI s4 (160 + (ix x1)) (ix (s3.1 (140 + (ix (cI 4))) (ix x1))) v2) fun s5 =>
        bd1 (fItems_come s5 v2 (cI 3)) fun s6 =>
        fRounds_keepSorted_b69 (fRounds_keepSorted_h2 n) s6 x1 x2
        else none
        else none
        else none
        else none
      else none
      else none
      else none
    else
      ltM (wI s 138 10 (cI 0)) fun s7 =>
      fRounds_keepSorted_h82 1048576 s7 (cI 0)
def fRounds_keepSorted (s : ev_M) (a1 : Int32) : Option ev_M :=
  fRounds_keepSorted_h2 1048576 s a1 (cI 0)
def fRounds_binReached_b78 (k2 : ev_M → Int32 → Int32 → Int32 → Option (ev_M × Int32)) (s : ev_M) (x1 : Int32) (x2 : Int32) (x3 : Int32) : Option (ev_M × Int32) :=
  if inb x3 16 = true then
  ltM (wI s 181 (ix x3) x1) fun s1 =>
  if inb x3 16 = true then
  if (s1.1 180 (ix x3)) = 0 then
    k2 s1 x1 x2 (x3 + cI 1)
  else
    some (s1, x3)
  else none
  else none
def fRounds_binReached_b63 (k2 : ev_M → Int32 → Int32 → Int32 → Option (ev_M × Int32)) (s : ev_M) (x1 : Int32) (x2 : Int32) (x3 : Int32) (x4 : Int32) (y0 : Int32) : Option (ev_M × Int32) :=
  if y0 = 0 then
    fRounds_binReached_b78 k2 s x1 x2 x3
  else
    if inb x3 16 = true then
    ltM (wI s 180 (ix x3) (x4 &&& 1)) fun s2 =>
    fRounds_binReached_b78 k2 s2 x1 x2 x3
    else none
def fRounds_binReached_b58 (k2 : ev_M → Int32 → Int32 → Int32 → Option (ev_M × Int32)) (s : ev_M) (x1 : Int32) (x2 : Int32) (x3 : Int32) (x4 : Int32) : Option (ev_M × Int32) :=
  fRounds_binReached_b63 k2 s x1 x2 x3 x4 (cI 1)
def fRounds_binReached_b22 (k2 : ev_M → Int32 → Int32 → Int32 → Option (ev_M × Int32)) (s : ev_M) (x1 : Int32) (x2 : Int32) (x3 : Int32) (y0 : Int32) : Option (ev_M × Int32) :=
  if inb x3 16 = true then
  if (s.1 181 (ix x3)) = (cI (-1)) then
    fRounds_binReached_b58 k2 s x1 x2 x3 y0
  else
    if inb x3 16 = true then
    if ((x1 - (s.1 181 (ix x3))) * (s.1 172 (ix (cI 1)))) < (s.1 172 (ix (cI 3))) then
      fRounds_binReached_b63 k2 s x1 x2 x3 y0 (cI 0)
    else
      fRounds_binReached_b58 k2 s x1 x2 x3 y0
    else none
  else none
def fRounds_binReached_h2 : Nat → ev_M → Int32 → Int32 → Int32 → Option (ev_M × Int32)
  | 0, _, _, _, _ => none
  | n + 1, s, x1, x2, x3 =>
    if x3 < (s.1 172 (ix (cI 0))) then
      if x3 = x2 then
        fRounds_binReached_b22 (fRounds_binReached_h2 n) s x1 x2 x3 (cI 1)
      else
        fRounds_binReached_b22 (fRounds_binReached_h2 n) s x1 x2 x3 (cI 0)
    else
      some (s, (s.1 172 (ix (cI 0))))
def fRounds_binReached (s : ev_M) (a1 : Int32) (a2 : Int32) : Option (ev_M × Int32) :=
  fRounds_binReached_h2 1048576 s a1 a2 (cI 0)
def fRounds_feedPass_b118 (k47 : ev_M → Int32 → Int32 → Int32 → Option ev_M) (s : ev_M) (x1 : Int32) (x2 : Int32) (x3 : Int32) : Option ev_M :=
  k47 s x1 x2 (x3 + cI 1)
def fRounds_feedPass_b182 (k129 : ev_M → Int32 → Int32 → Int32 → Option ev_M) (k138 : ev_M → Int32 → Int32 → Int32 → Int32 → Option ev_M) (s : ev_M) (x2 : Int32) (x3 : Int32) (x4 : Int32) (x5 : Int32) : Option ev_M :=
  k138 s x2 x3 x4 (x5 + cI 1)
def fRounds_feedPass_h138 (k129 : ev_M → Int32 → Int32 → Int32 → Option ev_M) : Nat → ev_M → Int32 → Int32 → Int32 → Int32 → Option ev_M
  | 0, _, _, _, _, _ => none
  | n + 1, s, x2, x3, x4, x5 =>
    if x5 < (s.1 138 12) then
      if inb x5 300 = true then
      if inb (s.1 174 (ix x5)) 300 = true then
      if (s.1 (177 + (ix (cI 1))) (ix (s.1 174 (ix x5)))) = x4 then
        if inb x5 300 = true then
        if inb x3 300 = true then
        ltM (wI s 175 (ix x3) (s.1 174 (ix x5))) fun s1 =>
        fRounds_feedPass_b182 k129 (fRounds_feedPass_h138 k129 n) s1 x2 (x3 + cI 1) x4 x5
        else none
        else none
      else
        fRounds_feedPass_b182 k129 (fRounds_feedPass_h138 k129 n) s x2 x3 x4 x5
      else none
      else none
    else
      k129 s x2 x3 (x4 + cI 1)
def fRounds_feedPass_h129 : Nat → ev_M → Int32 → Int32 → Int32 → Option ev_M
  | 0, _, _, _, _ => none
  | n + 1, s, x2, x3, x4 =>
    if x4 ≤ x2 then
      fRounds_feedPass_h138 (fRounds_feedPass_h129 n) 1048576 s x2 x3 x4 (cI 0)
    else
      bd1 (fACP s 300 300 175 174 (cI 0) (cI 0) (s.1 138 12)) fun s2 =>
      some s2
def fRounds_feedPass_h47 : Nat → ev_M → Int32 → Int32 → Int32 → Option ev_M
  | 0, _, _, _, _ => none
  | n + 1, s, x1, x2, x3 =>
    if x3 < (s.1 138 12) then
      if inb x3 300 = true then
      ltI (s.1 174 (ix x3)) fun v3 =>
      if inb v3 300 = true then
      if x1 = 0 then none else
      if x2 = 0 then none else
      ltI (irem ((s.1 (177 + (ix (cI 0))) (ix v3)) / x1) x2) fun v4 =>
      bd2 (fRounds_binReached s x3 v4) fun s5 v6 =>
      if inb v3 300 = true then
      ltM (wI s5 (177 + (ix (cI 1))) (ix v3) v6) fun s7 =>
      if inb v3 300 = true then
      if (s7.1 (177 + (ix (cI 1))) (ix v3)) = v4 then
        fRounds_feedPass_b118 (fRounds_feedPass_h47 n) s7 x1 x2 x3
      else
        if inb v3 300 = true then
        ltM (wI s7 (177 + (ix (cI 2))) (ix v3) (cI 1)) fun s8 =>
        fRounds_feedPass_b118 (fRounds_feedPass_h47 n) s8 x1 x2 x3
        else none
      else none
      else none
      else none
      else none
    else
      fRounds_feedPass_h129 1048576 s x2 (cI 0) (cI 0)
def fRounds_feedPass_h20 : Nat → ev_M → Int32 → Int32 → Int32 → Option ev_M
  | 0, _, _, _, _ => none
  | n + 1, s, x1, x2, x3 =>
    if x3 < x2 then
      if inb x3 16 = true then
      ltM (wI s 180 (ix x3) ((cI 0) &&& 1)) fun s9 =>
      if inb x3 16 = true then
      ltM (wI s9 181 (ix x3) (cI (-1))) fun s10 =>
      (fRounds_feedPass_h20 n) s10 x1 x2 (x3 + cI 1)
      else none
      else none
    else
      fRounds_feedPass_h47 1048576 s x1 x2 (cI 0)
def fRounds_feedPass (s : ev_M) (a1 : Int32) : Option ev_M :=
  ltI (s.1 172 (ix (cI 0))) fun v11 =>
  if a1 < (cI 1) then
    some s
  else
    if v11 < (cI 2) then
      some s
    else
      fRounds_feedPass_h20 1048576 s a1 v11 (cI 0)
def fRounds_cameAfter (s : ev_M) (a1 : Int32) (a2 : Int32) : Option Int32 :=
  if inb a1 300 = true then
  if inb a2 300 = true then
  if (s.1 (102 + (ix (cI 17))) (ix a1)) ≤ (s.1 (102 + (ix (cI 17))) (ix a2)) then
    some (cI 0)
  else
    some (cI 1)
  else none
  else none
def fMoney_homeOf (s : ev_M) (a1 : Int32) : Option Int32 :=
  if inb a1 34 = true then
  some (s.1 79 (ix a1))
  else none
def fBook_orderFor_b87 (s : ev_M) (k16 : Int32 → Int32 → Int32 → Int32 → Option Int32) (x1 : Int32) (x2 : Int32) (x3 : Int32) (x4 : Int32) : Option Int32 :=
  k16 x1 x2 x3 (x4 + cI (-1))
def fBook_orderFor_b51 (s : ev_M) (k16 : Int32 → Int32 → Int32 → Int32 → Option Int32) (x1 : Int32) (x2 : Int32) (x3 : Int32) (x4 : Int32) (y0 : Int32) : Option Int32 :=
  if inb x4 60 = true then
  if (s.1 (47 + (ix (cI 0))) (ix x4)) = x1 then
    if y0 = 0 then
      fBook_orderFor_b87 s k16 x1 x2 x3 x4
    else
      if inb x4 60 = true then
      if x3 < (s.1 (47 + (ix (cI 3))) (ix x4)) then
        some x4
      else
        fBook_orderFor_b87 s k16 x1 x2 x3 x4
      else none
  else
    fBook_orderFor_b87 s k16 x1 x2 x3 x4
  else none
def fBook_orderFor_b46 (s : ev_M) (k16 : Int32 → Int32 → Int32 → Int32 → Option Int32) (x1 : Int32) (x2 : Int32) (x3 : Int32) (x4 : Int32) : Option Int32 :=
  fBook_orderFor_b51 s k16 x1 x2 x3 x4 (cI 1)
def fBook_orderFor_h16 (s : ev_M) : Nat → Int32 → Int32 → Int32 → Int32 → Option Int32
  | 0, _, _, _, _ => none
  | n + 1, x1, x2, x3, x4 =>
    if x4 < 0 then
      some (cI (-1))
    else
      if inb x4 60 = true then
      if (s.1 (47 + (ix (cI 1))) (ix x4)) = x2 then
        fBook_orderFor_b46 s (fBook_orderFor_h16 s n) x1 x2 x3 x4
      else
        if inb x4 60 = true then
        if (s.1 (47 + (ix (cI 1))) (ix x4)) = 0 then
          fBook_orderFor_b46 s (fBook_orderFor_h16 s n) x1 x2 x3 x4
        else
          fBook_orderFor_b51 s (fBook_orderFor_h16 s n) x1 x2 x3 x4 (cI 0)
        else none
      else none
def fBook_orderFor (s : ev_M) (a1 : Int32) (a2 : Int32) : Option Int32 :=
  bd1 (fChron_today s) fun v1 =>
  ltI ((s.1 30 11) - (cI 1)) fun v2 =>
  fBook_orderFor_h16 s 1048576 a1 a2 v1 v2
def fBook_goalFor_h17 : Nat → ev_M → Int32 → Int32 → Option (ev_M × Int32)
  | 0, _, _, _ => none
  | n + 1, s, x2, x3 =>
    if x3 < (cI 120) then
      if inb (s.1 30 15) 120 = true then
      ltM (wI s 51 (ix (s.1 30 15)) (s.1 30 14)) fun s1 =>
      bd1 (fBook_orderFor s1 (s1.1 30 15) x2) fun v2 =>
      if v2 = (cI (-1)) then
        some (s1, (s1.1 30 15))
      else
        if inb v2 60 = true then
        ltI (s1.1 (47 + (ix (cI 2))) (ix v2)) fun v3 =>
        if v3 = (cI (-1)) then
          some (s1, (cI (-110)))
        else
          if inb v3 120 = true then
          if (s1.1 51 (ix v3)) = (s1.1 30 14) then
            some (s1, (cI (-111)))
          else
            ltM (wI s1 30 15 v3) fun s4 =>
            (fBook_goalFor_h17 n) s4 x2 (x3 + cI 1)
          else none
        else none
      else none
    else
      some (s, (cI (-111)))
def fBook_goalFor (s : ev_M) (a1 : Int32) (a2 : Int32) : Option (ev_M × Int32) :=
  ltM (wI s 30 14 ((s.1 30 14) + (cI 1))) fun s5 =>
  ltM (wI s5 30 15 a1) fun s6 =>
  fBook_goalFor_h17 1048576 s6 a2 (cI 0)
def fItems_goalOf (s : ev_M) (a1 : Int32) : Option (ev_M × Int32) :=
  if inb a1 300 = true then
  if (s.1 (102 + (ix (cI 10))) (ix a1)) = (cI 1) then
    if inb a1 300 = true then
    bd1 (fMoney_homeOf s (s.1 (102 + (ix (cI 4))) (ix a1))) fun v1 =>
    some (s, v1)
    else none
  else
    if inb a1 300 = true then
    ltI (s.1 (102 + (ix (cI 7))) (ix a1)) fun v2 =>
    if v2 = (cI (-1)) then
      some (s, (cI (-1)))
    else
      if inb a1 300 = true then
      bd2 (fBook_goalFor s v2 (s.1 (102 + (ix (cI 5))) (ix a1))) fun s3 v4 =>
      some (s3, v4)
      else none
    else none
  else none
def fRounds_placeAmong_h2 (s : ev_M) : Nat → Int32 → Int32 → Int32 → Option Int32
  | 0, _, _, _ => none
  | n + 1, x1, x2, x3 =>
    if inb x1 12 = true then
    if x3 < (s.1 (140 + (ix (cI 3))) (ix x1)) then
      if inb x1 12 = true then
      if inb x3 20 = true then
      if (s.1 (146 + (ix x1)) (ix x3)) = x2 then
        some x3
      else
        (fRounds_placeAmong_h2 s n) x1 x2 (x3 + cI 1)
      else none
      else none
    else
      some (cI (-1))
    else none
def fRounds_placeAmong (s : ev_M) (a1 : Int32) (a2 : Int32) : Option Int32 :=
  fRounds_placeAmong_h2 s 1048576 a1 a2 (cI 0)
def fRounds_gather_b177 (k7 : ev_M → Int32 → Int32 → Option ev_M) (s : ev_M) (x1 : Int32) (x2 : Int32) : Option ev_M :=
  k7 s x1 (x2 + cI 1)
def fRounds_gather_b169 (k7 : ev_M → Int32 → Int32 → Option ev_M) (s : ev_M) (x1 : Int32) (x2 : Int32) (x4 : Int32) : Option ev_M :=
  if inb x4 300 = true then
  ltM (wI s 174 (ix x4) x2) fun s1 =>
  fRounds_gather_b177 k7 s1 x1 x2
  else none
def fRounds_gather_h125 (k7 : ev_M → Int32 → Int32 → Option ev_M) : Nat → ev_M → Int32 → Int32 → Int32 → Option ev_M
  | 0, _, _, _, _ => none
  | n + 1, s, x1, x2, x4 =>
    if x4 ≤ 0 then
      fRounds_gather_b169 k7 s x1 x2 x4
    else
      if inb (x4 - (cI 1)) 300 = true then
      bd1 (fRounds_cameAfter s (s.1 174 (ix (x4 - (cI 1)))) x2) fun v2 =>
      if v2 = 0 then
        fRounds_gather_b169 k7 s x1 x2 x4
      else
        if inb (x4 - (cI 1)) 300 = true then
        if inb x4 300 = true then
        ltM (wI s 174 (ix x4) (s.1 174 (ix (x4 - (cI 1))))) fun s3 =>
        (fRounds_gather_h125 k7 n) s3 x1 x2 (x4 + cI (-1))
        else none
        else none
      else none
def fRounds_gather_h7 : Nat → ev_M → Int32 → Int32 → Option ev_M
  | 0, _, _, _ => none
  | n + 1, s, x1, x2 =>
    if x2 < (s.1 100 5) then
      bd1 (fItems_is s x2 (cI 1)) fun v4 =>
      if v4 = 0 then
        fRounds_gather_b177 (fRounds_gather_h7 n) s x1 x2
      else
        if inb x2 300 = true then
        if inb x1 12 = true then
        if (s.1 (102 + (ix (cI 8))) (ix x2)) = (s.1 (140 + (ix (cI 0))) (ix x1)) then
          bd2 (fItems_goalOf s x2) fun s5 v6 =>
          bd1 (fBook_hasPoint s5 v6) fun v7 =>
          if v7 = 0 then
            fRounds_gather_b177 (fRounds_gather_h7 n) s5 x1 x2
          else
            if inb v6 120 = true then
            if (s5.1 158 (ix v6)) = x1 then
              bd1 (fRounds_placeAmong s5 x1 v6) fun v8 =>
              if inb x2 300 = true then
              ltM (wI s5 (177 + (ix (cI 0))) (ix x2) v8) fun s9 =>
              if inb x2 300 = true then
              ltM (wI s9 (177 + (ix (cI 2))) (ix x2) (cI 0)) fun s10 =>
              ltM (wI s10 138 12 ((s10.1 138 12) + (cI 1))) fun s11 =>
              ltI (s10.1 138 12) fun v12 =>
              fRounds_gather_h125 (fRounds_gather_h7 n) 1048576 s11 x1 x2 v12
              else none
              else none
            else
              fRounds_gather_b177 (fRounds_gather_h7 n) s5 x1 x2
            else none
        else
          fRounds_gather_b177 (fRounds_gather_h7 n) s x1 x2
        else none
        else none
    else
      some s
def fRounds_gather (s : ev_M) (a1 : Int32) : Option ev_M :=
  ltM (wI s 138 12 (cI 0)) fun s13 =>
  fRounds_gather_h7 1048576 s13 a1 (cI 0)
def fRounds_rank_b64 (k9 : ev_M → Nat → Int32 → Option ev_M) (s : ev_M) (i1 : Nat) (x2 : Int32) (x3 : Int32) : Option ev_M :=
  if inb x2 300 = true then
  if inb x3 300 = true then
  ltM (wI s 175 (ix x3) (s.1 174 (ix x2))) fun s1 =>
  k9 s1 i1 (x2 + cI 1)
  else none
  else none
def fRounds_rank_h19 (k9 : ev_M → Nat → Int32 → Option ev_M) : Nat → ev_M → Nat → Int32 → Int32 → Option ev_M
  | 0, _, _, _, _ => none
  | n + 1, s, i1, x2, x3 =>
    if x3 ≤ 0 then
      fRounds_rank_b64 k9 s i1 x2 x3
    else
      if inb (x3 - (cI 1)) 300 = true then
      if inb (s.1 175 (ix (x3 - (cI 1)))) 300 = true then
      if inb x2 300 = true then
      if inb (s.1 174 (ix x2)) 300 = true then
      if (s.1 (177 + i1) (ix (s.1 175 (ix (x3 - (cI 1)))))) ≤ (s.1 (177 + i1) (ix (s.1 174 (ix x2)))) then
        fRounds_rank_b64 k9 s i1 x2 x3
      else
        if inb (x3 - (cI 1)) 300 = true then
        if inb x3 300 = true then
        ltM (wI s 175 (ix x3) (s.1 175 (ix (x3 - (cI 1))))) fun s2 =>
        (fRounds_rank_h19 k9 n) s2 i1 x2 (x3 + cI (-1))
        else none
        else none
      else none
      else none
      else none
      else none
def fRounds_rank_h84 : Nat → ev_M → Nat → Int32 → Option ev_M
  | 0, _, _, _ => none
  | n + 1, s, i1, x2 =>
    if x2 < (s.1 138 12) then
      if inb x2 300 = true then
      if inb (s.1 175 (ix x2)) 300 = true then
      ltM (wI s (177 + i1) (ix (s.1 175 (ix x2))) x2) fun s3 =>
      (fRounds_rank_h84 n) s3 i1 (x2 + cI 1)
      else none
      else none
    else
      some s
def fRounds_rank_h9 : Nat → ev_M → Nat → Int32 → Option ev_M
  | 0, _, _, _ => none
  | n + 1, s, i1, x2 =>
    if x2 < (s.1 138 12) then
      fRounds_rank_h19 (fRounds_rank_h9 n) 1048576 s i1 x2 x2
    else
      fRounds_rank_h84 1048576 s i1 (cI 0)
def fRounds_rank (s : ev_M) : Option ev_M :=
  fRounds_rank_h9 1048576 s (ix (cI 0)) (cI 0)
def fRounds_sortItems_b111 (s : ev_M) (x1 : Int32) : Option (ev_M × Int32) :=
  bd1 (fRounds_keepSorted s x1) fun s1 =>
  if inb x1 12 = true then
  some (s1, (s1.1 (140 + (ix (cI 4))) (ix x1)))
  else none
def fRounds_sortItems_b74 (k56 : ev_M → Int32 → Int32 → Int32 → Option (ev_M × Int32)) (s : ev_M) (x1 : Int32) (x2 : Int32) (x3 : Int32) : Option (ev_M × Int32) :=
  if (s.1 138 12) ≤ 0 then
    fRounds_sortItems_b111 s x1
  else
    bd1 (fRounds_feedPass s x2) fun s2 =>
    ltI (x2 * (s2.1 172 (ix (cI 0)))) fun v3 =>
    ltM (wI s2 138 9 ((s2.1 138 9) + (cI 1))) fun s4 =>
    k56 s4 x1 v3 (x3 + cI 1)
def fRounds_sortItems_h56 : Nat → ev_M → Int32 → Int32 → Int32 → Option (ev_M × Int32)
  | 0, _, _, _, _ => none
  | n + 1, s, x1, x2, x3 =>
    if x3 < (cI 10) then
      if x3 = 0 then
        fRounds_sortItems_b74 (fRounds_sortItems_h56 n) s x1 x2 x3
      else
        if x2 < (s.1 138 12) then
          fRounds_sortItems_b74 (fRounds_sortItems_h56 n) s x1 x2 x3
        else
          fRounds_sortItems_b111 s x1
    else
      fRounds_sortItems_b111 s x1
def fRounds_sortItems (s : ev_M) (a1 : Int32) : Option (ev_M × Int32) :=
  bd1 (fRounds_has s a1) fun v5 =>
  if v5 = 0 then
    some (s, (cI (-101)))
  else
    if inb a1 12 = true then
    if (s.1 (140 + (ix (cI 4))) (ix a1)) ≤ 0 then
      bd2 (fLog_admits s) fun s6 v7 =>
      if v7 = 0 then
        some (s6, (cI (-104)))
      else
        bd1 (fRounds_gather s6 a1) fun s8 =>
        bd1 (fRounds_rank s8) fun s9 =>
        ltM (wI s9 138 9 (cI 0)) fun s10 =>
        fRounds_sortItems_h56 1048576 s10 a1 (cI 1) (cI 0)
    else
      some (s, (cI (-103)))
    else none
def fRounds_sendOut_h42 : Nat → ev_M → Int32 → Int32 → Int32 → Option (ev_M × Int32)
  | 0, _, _, _, _ => none
  | n + 1, s, x1, x2, x3 =>
    if x3 < x2 then
      if inb x1 12 = true then
      if inb x3 300 = true then
      bd1 (fItems_come s (s.1 (160 + (ix x1)) (ix x3)) (cI 4)) fun s1 =>
      (fRounds_sendOut_h42 n) s1 x1 x2 (x3 + cI 1)
      else none
      else none
    else
      if inb x1 12 = true then
      ltM (wI s (140 + (ix (cI 4))) (ix x1) (cI 0)) fun s2 =>
      some (s2, x2)
      else none
def fRounds_sendOut (s : ev_M) (a1 : Int32) : Option (ev_M × Int32) :=
  bd1 (fRounds_has s a1) fun v3 =>
  if v3 = 0 then
    some (s, (cI (-101)))
  else
    if inb a1 12 = true then
    ltI (s.1 (140 + (ix (cI 4))) (ix a1)) fun v4 =>
    if v4 = 0 then
      some (s, (cI (-103)))
    else
      bd2 (fLog_admits s) fun s5 v6 =>
      if v6 = 0 then
        some (s5, (cI (-104)))
      else
        fRounds_sendOut_h42 1048576 s5 a1 v4 (cI 0)
    else none
def fLines_firstFrom (s : ev_M) (a1 : Int32) (a2 : Int32) : Option Int32 :=
  if inb a1 20 = true then
  if (cI 1440) = 0 then none else
  if (cI 1440) = 0 then none else
  some (a2 + (irem (((s.1 (451 + (ix (cI 2))) (ix a1)) + (cI 1440)) - (irem a2 (cI 1440))) (cI 1440)))
  else none
def fLines_setNext (s : ev_M) (a1 : Int32) : Option ev_M :=
  bd1 (fLines_firstFrom s a1 ((s.1 15 1) + (cI 1))) fun v1 =>
  if inb a1 20 = true then
  ltM (wI s (451 + (ix (cI 5))) (ix a1) v1) fun s2 =>
  if inb a1 20 = true then
  ltM (wI s2 (451 + (ix (cI 6))) (ix a1) (cI 0)) fun s3 =>
  some s3
  else none
  else none
def fLines_make (s : ev_M) (a1 : Int32) (a2 : Int32) (a3 : Int32) (a4 : Int32) (a5 : Int32) : Option (ev_M × Int32) :=
  bd1 (fBook_hasPlace s a1) fun v1 =>
  if v1 = 0 then
    some (s, (cI (-101)))
  else
    bd1 (fBook_hasPlace s a2) fun v2 =>
    if v2 = 0 then
      some (s, (cI (-101)))
    else
      if a1 = a2 then
        some (s, (cI (-102)))
      else
        bd1 (fPH_outside s a3 (cI 0) (cI 1439)) fun v3 =>
        if v3 = 0 then
          bd1 (fPH_outside s a4 (cI 1) (cI 3000)) fun v4 =>
          if v4 = 0 then
            bd1 (fPH_outside s a5 (cI 1) (cI 20)) fun v5 =>
            if v5 = 0 then
              if (s.1 449 4) < (cI 20) then
                bd2 (fLog_admits s) fun s6 v7 =>
                if v7 = 0 then
                  some (s6, (cI (-104)))
                else
                  if inb (s6.1 449 4) 20 = true then
                  ltM (wI s6 (451 + (ix (cI 0))) (ix (s6.1 449 4)) a1) fun s8 =>
                  if inb (s8.1 449 4) 20 = true then
                  ltM (wI s8 (451 + (ix (cI 1))) (ix (s8.1 449 4)) a2) fun s9 =>
                  if inb (s9.1 449 4) 20 = true then
                  ltM (wI s9 (451 + (ix (cI 2))) (ix (s9.1 449 4)) a3) fun s10 =>
                  if inb (s10.1 449 4) 20 = true then
                  ltM (wI s10 (451 + (ix (cI 3))) (ix (s10.1 449 4)) a4) fun s11 =>
                  if inb (s11.1 449 4) 20 = true then
                  ltM (wI s11 (451 + (ix (cI 4))) (ix (s11.1 449 4)) a5) fun s12 =>
                  bd1 (fLines_setNext s12 (s12.1 449 4)) fun s13 =>
                  ltM (wI s13 449 4 ((s13.1 449 4) + (cI 1))) fun s14 =>
                  some (s14, (s13.1 449 4))
                  else none
                  else none
                  else none
                  else none
                  else none
              else
                some (s, (cI (-104)))
            else
              some (s, (cI (-102)))
          else
            some (s, (cI (-102)))
        else
          some (s, (cI (-102)))
def fLines_has (s : ev_M) (a1 : Int32) : Option Int32 :=
  bd1 (fPH_outside s a1 (cI 0) ((s.1 449 4) - (cI 1))) fun v1 =>
  if v1 = 0 then
    some (cI 1)
  else
    some (cI 0)
def fLines_delay (s : ev_M) (a1 : Int32) (a2 : Int32) : Option (ev_M × Int32) :=
  bd1 (fLines_has s a1) fun v1 =>
  if v1 = 0 then
    some (s, (cI (-101)))
  else
    bd1 (fPH_outside s a2 (cI 1) (cI 600)) fun v2 =>
    if v2 = 0 then
      bd2 (fLog_admits s) fun s3 v4 =>
      if v4 = 0 then
        some (s3, (cI (-104)))
      else
        if inb a1 20 = true then
        if inb a1 20 = true then
        ltM (wI s3 (451 + (ix (cI 5))) (ix a1) ((s3.1 (451 + (ix (cI 5))) (ix a1)) + a2)) fun s5 =>
        if inb a1 20 = true then
        if inb a1 20 = true then
        ltM (wI s5 (451 + (ix (cI 6))) (ix a1) ((s5.1 (451 + (ix (cI 6))) (ix a1)) + a2)) fun s6 =>
        if inb a1 20 = true then
        some (s6, (s6.1 (451 + (ix (cI 6))) (ix a1)))
        else none
        else none
        else none
        else none
        else none
    else
      some (s, (cI (-102)))
def fLines_makeBag (s : ev_M) (a1 : Int32) (a2 : Int32) : Option (ev_M × Int32) :=
  bd1 (fBook_hasPlace s a1) fun v1 =>
  if v1 = 0 then
    some (s, (cI (-101)))
  else
    bd1 (fBook_hasPlace s a2) fun v2 =>
    if v2 = 0 then
      some (s, (cI (-101)))
    else
      if a1 = a2 then
        some (s, (cI (-102)))
      else
        if (s.1 449 6) < (cI 80) then
          bd2 (fLog_admits s) fun s3 v4 =>
          if v4 = 0 then
            some (s3, (cI (-104)))
          else
            if inb (s3.1 449 6) 80 = true then
            ltM (wI s3 (459 + (ix (cI 0))) (ix (s3.1 449 6)) (cI 0)) fun s5 =>
            if inb (s5.1 449 6) 80 = true then
            ltM (wI s5 (459 + (ix (cI 1))) (ix (s5.1 449 6)) a1) fun s6 =>
            if inb (s6.1 449 6) 80 = true then
            ltM (wI s6 (459 + (ix (cI 2))) (ix (s6.1 449 6)) a2) fun s7 =>
            if inb (s7.1 449 6) 80 = true then
            ltM (wI s7 (459 + (ix (cI 3))) (ix (s7.1 449 6)) (cI 0)) fun s8 =>
            if inb (s8.1 449 6) 80 = true then
            ltM (wI s8 (459 + (ix (cI 4))) (ix (s8.1 449 6)) (cI (-1))) fun s9 =>
            if inb (s9.1 449 6) 80 = true then
            ltM (wI s9 (459 + (ix (cI 5))) (ix (s9.1 449 6)) (cI (-1))) fun s10 =>
            ltM (wI s10 449 6 ((s10.1 449 6) + (cI 1))) fun s11 =>
            some (s11, (s10.1 449 6))
            else none
            else none
            else none
            else none
            else none
            else none
        else
          some (s, (cI (-104)))
def fItems_goalPlaceOf_b40 (s : ev_M) (y1 : Int32) : Option (ev_M × Int32) :=
  bd1 (fBook_placeOfPoint s y1) fun v1 =>
  some (s, v1)
def fItems_goalPlaceOf_b29 (s : ev_M) : Option (ev_M × Int32) :=
  fItems_goalPlaceOf_b40 s (s.1 30 15)
def fItems_goalPlaceOf (s : ev_M) (a1 : Int32) : Option (ev_M × Int32) :=
  bd2 (fItems_goalOf s a1) fun s2 v3 =>
  if v3 = (cI (-1)) then
    some (s2, (cI (-1)))
  else
    if v3 = (cI (-110)) then
      fItems_goalPlaceOf_b29 s2
    else
      if v3 = (cI (-111)) then
        fItems_goalPlaceOf_b29 s2
      else
        fItems_goalPlaceOf_b40 s2 v3
def fLines_hasBag (s : ev_M) (a1 : Int32) : Option Int32 :=
  bd1 (fPH_outside s a1 (cI 0) ((s.1 449 6) - (cI 1))) fun v1 =>
  if v1 = 0 then
    some (cI 1)
  else
    some (cI 0)
def fLines_fillBag_b62 (s : ev_M) (x1 : Int32) (x2 : Int32) (y0 : Int32) : Option (ev_M × Int32) :=
  if inb x1 80 = true then
  if (s.1 (459 + (ix (cI 0))) (ix x1)) = 0 then
    if y0 = 0 then
      some (s, (cI (-103)))
    else
      bd2 (fItems_goalPlaceOf s x2) fun s1 v2 =>
      if inb x1 80 = true then
      if v2 = (s1.1 (459 + (ix (cI 2))) (ix x1)) then
        if inb x1 80 = true then
        if (s1.1 (459 + (ix (cI 3))) (ix x1)) < (cI 40) then
          bd2 (fLog_admits s1) fun s3 v4 =>
          if v4 = 0 then
            some (s3, (cI (-104)))
          else
            if inb x1 80 = true then
            if inb x1 80 = true then
            if inb x1 80 = true then
            ltM (wI s3 (459 + (ix (cI 3))) (ix x1) ((s3.1 (459 + (ix (cI 3))) (ix x1)) + (cI 1))) fun s5 =>
            if inb (s3.1 (459 + (ix (cI 3))) (ix x1)) 40 = true then
            ltM (wI s5 (466 + (ix x1)) (ix (s3.1 (459 + (ix (cI 3))) (ix x1))) x2) fun s6 =>
            bd1 (fItems_come s6 x2 (cI 2)) fun s7 =>
            if inb x2 300 = true then
            ltM (wI s7 (102 + (ix (cI 9))) (ix x2) x1) fun s8 =>
            if inb x1 80 = true then
            some (s8, (s8.1 (459 + (ix (cI 3))) (ix x1)))
            else none
            else none
            else none
            else none
            else none
            else none
        else
          some (s1, (cI (-104)))
        else none
      else
        some (s1, (cI (-103)))
      else none
  else
    some (s, (cI (-103)))
  else none
def fLines_fillBag_b61 (s : ev_M) (x1 : Int32) (x2 : Int32) : Option (ev_M × Int32) :=
  fLines_fillBag_b62 s x1 x2 (cI 0)
def fLines_fillBag (s : ev_M) (a1 : Int32) (a2 : Int32) : Option (ev_M × Int32) :=
  bd1 (fLines_hasBag s a1) fun v9 =>
  if v9 = 0 then
    some (s, (cI (-101)))
  else
    bd1 (fItems_has s a2) fun v10 =>
    if v10 = 0 then
      some (s, (cI (-101)))
    else
      bd1 (fItems_is s a2 (cI 1)) fun v11 =>
      if v11 = 0 then
        fLines_fillBag_b61 s a1 a2
      else
        if inb a2 300 = true then
        if inb a1 80 = true then
        if (s.1 (102 + (ix (cI 8))) (ix a2)) = (s.1 (459 + (ix (cI 1))) (ix a1)) then
          fLines_fillBag_b62 s a1 a2 (cI 1)
        else
          fLines_fillBag_b61 s a1 a2
        else none
        else none
def fLines_shutBag (s : ev_M) (a1 : Int32) : Option (ev_M × Int32) :=
  bd1 (fLines_hasBag s a1) fun v1 =>
  if v1 = 0 then
    some (s, (cI (-101)))
  else
    if inb a1 80 = true then
    if (s.1 (459 + (ix (cI 0))) (ix a1)) = 0 then
      bd2 (fLog_admits s) fun s2 v3 =>
      if v3 = 0 then
        some (s2, (cI (-104)))
      else
        if inb a1 80 = true then
        ltM (wI s2 (459 + (ix (cI 0))) (ix a1) (cI 1)) fun s4 =>
        if inb a1 80 = true then
        some (s4, (s4.1 (459 + (ix (cI 3))) (ix a1)))
        else none
        else none
    else
      some (s, (cI (-103)))
    else none
def fLines_emptyBag_h69 : Nat → ev_M → Int32 → Int32 → Int32 → Option (ev_M × Int32)
  | 0, _, _, _, _ => none
  | n + 1, s, x1, x2, x3 =>
    if x3 < x2 then
      if inb x1 80 = true then
      if inb x3 40 = true then
      if inb x1 80 = true then
      bd1 (fItems_comeInAt s (s.1 (466 + (ix x1)) (ix x3)) (s.1 (459 + (ix (cI 2))) (ix x1))) fun s1 =>
      (fLines_emptyBag_h69 n) s1 x1 x2 (x3 + cI 1)
      else none
      else none
      else none
    else
      if inb x1 80 = true then
      ltM (wI s (459 + (ix (cI 3))) (ix x1) (cI 0)) fun s2 =>
      if inb x1 80 = true then
      ltM (wI s2 (459 + (ix (cI 0))) (ix x1) (cI 3)) fun s3 =>
      some (s3, x2)
      else none
      else none
def fLines_emptyBag (s : ev_M) (a1 : Int32) : Option (ev_M × Int32) :=
  bd1 (fLines_hasBag s a1) fun v4 =>
  if v4 = 0 then
    some (s, (cI (-101)))
  else
    if inb a1 80 = true then
    if (s.1 (459 + (ix (cI 0))) (ix a1)) = (cI 1) then
      if inb a1 80 = true then
      if inb a1 80 = true then
      if (s.1 (459 + (ix (cI 1))) (ix a1)) = (s.1 (459 + (ix (cI 2))) (ix a1)) then
        bd2 (fLog_admits s) fun s5 v6 =>
        if v6 = 0 then
          some (s5, (cI (-104)))
        else
          if inb a1 80 = true then
          ltI (s5.1 (459 + (ix (cI 3))) (ix a1)) fun v7 =>
          fLines_emptyBag_h69 1048576 s5 a1 v7 (cI 0)
          else none
      else
        some (s, (cI (-103)))
      else none
      else none
    else
      some (s, (cI (-103)))
    else none
def fMoney_transfer (s : ev_M) (a1 : Int32) (a2 : Int32) (a3 : Int32) (a4 : Int32) : Option ev_M :=
  if a3 = 0 then
    some s
  else
    if (s.1 78 6) < (cI 2000) then
      if inb a1 34 = true then
      if inb a1 34 = true then
      ltM (wL s 80 (ix a1) ((s.2.1 80 (ix a1)) - (Int32.toInt64 a3))) fun s1 =>
      if inb a2 34 = true then
      if inb a2 34 = true then
      ltM (wL s1 80 (ix a2) ((s1.2.1 80 (ix a2)) + (Int32.toInt64 a3))) fun s2 =>
      if inb (s2.1 78 6) 2000 = true then
      ltM (wI s2 (82 + (ix (cI 0))) (ix (s2.1 78 6)) a1) fun s3 =>
      if inb (s3.1 78 6) 2000 = true then
      ltM (wI s3 (82 + (ix (cI 1))) (ix (s3.1 78 6)) a2) fun s4 =>
      if inb (s4.1 78 6) 2000 = true then
      ltM (wI s4 (82 + (ix (cI 2))) (ix (s4.1 78 6)) a3) fun s5 =>
      ltM (wI s5 78 6 ((s5.1 78 6) + (cI 1))) fun s6 =>
      if inb (s5.1 78 6) 2000 = true then
      ltM (wI s6 (82 + (ix (cI 3))) (ix (s5.1 78 6)) a4) fun s7 =>
      some s7
      else none
      else none
      else none
      else none
      else none
      else none
      else none
      else none
    else
      some s
def fMoney_hasRoomFor (s : ev_M) (a1 : Int32) : Option Int32 :=
  if (((s.1 78 6) + a1) + (s.1 78 9)) ≤ (cI 2000) then
    some (cI 1)
  else
    some (cI 0)
def fMoney_priceFor_b105 (s : ev_M) (k9 : Int32 → Int32 → Int32 → Int32 → Int32 → Int32 → Option Int32) (x1 : Int32) (x2 : Int32) (x3 : Int32) (x4 : Int32) (x5 : Int32) (x6 : Int32) : Option Int32 :=
  k9 x1 x2 x3 x4 x5 (x6 + cI 1)
def fMoney_priceFor_h9 (s : ev_M) : Nat → Int32 → Int32 → Int32 → Int32 → Int32 → Int32 → Option Int32
  | 0, _, _, _, _, _, _ => none
  | n + 1, x1, x2, x3, x4, x5, x6 =>
    if x6 < (s.1 78 11) then
      if inb x6 40 = true then
      if (s.1 (93 + (ix (cI 0))) (ix x6)) = (cI (-1)) then
        if inb x6 40 = true then
        if ((s.1 (93 + (ix (cI 1))) (ix x6)) &&& x3) = 0 then
          fMoney_priceFor_b105 s (fMoney_priceFor_h9 s n) x1 x2 x3 x4 x5 x6
        else
          if inb x6 40 = true then
          ltI (x5 + (s.1 (93 + (ix (cI 2))) (ix x6))) fun v1 =>
          fMoney_priceFor_b105 s (fMoney_priceFor_h9 s n) x1 x2 x3 x4 v1 x6
          else none
        else none
      else
        if inb x6 40 = true then
        if (s.1 (93 + (ix (cI 0))) (ix x6)) = x1 then
          if x4 = (cI (-1)) then
            if inb x6 40 = true then
            if x2 ≤ (s.1 (93 + (ix (cI 1))) (ix x6)) then
              if inb x6 40 = true then
              ltI (s.1 (93 + (ix (cI 2))) (ix x6)) fun v2 =>
              fMoney_priceFor_b105 s (fMoney_priceFor_h9 s n) x1 x2 x3 v2 x5 x6
              else none
            else
              fMoney_priceFor_b105 s (fMoney_priceFor_h9 s n) x1 x2 x3 x4 x5 x6
            else none
          else
            fMoney_priceFor_b105 s (fMoney_priceFor_h9 s n) x1 x2 x3 x4 x5 x6
        else
          fMoney_priceFor_b105 s (fMoney_priceFor_h9 s n) x1 x2 x3 x4 x5 x6
        else none
      else none
    else
      if x4 = (cI (-1)) then
        some (cI (-1))
      else
        some (x4 + x5)
def fMoney_priceFor (s : ev_M) (a1 : Int32) (a2 : Int32) (a3 : Int32) : Option Int32 :=
  fMoney_priceFor_h9 s 1048576 a1 a2 a3 (cI (-1)) (cI 0) (cI 0)
def fItems_priceOf (s : ev_M) (a1 : Int32) : Option Int32 :=
  if inb a1 300 = true then
  if inb a1 300 = true then
  if inb a1 300 = true then
  bd1 (fMoney_priceFor s (s.1 (102 + (ix (cI 1))) (ix a1)) (s.1 (102 + (ix (cI 2))) (ix a1)) (s.1 (102 + (ix (cI 3))) (ix a1))) fun v1 =>
  some v1
  else none
  else none
  else none
def fItems_priceDue_b22 (s : ev_M) (y0 : Int32) : Option Int32 :=
  if y0 = (cI (-1)) then
    some (cI 0)
  else
    some (y0 + (cI 100))
def fItems_priceDue (s : ev_M) (a1 : Int32) : Option Int32 :=
  if inb a1 300 = true then
  if (s.1 (102 + (ix (cI 11))) (ix a1)) = (cI (-1)) then
    bd1 (fItems_priceOf s a1) fun v1 =>
    fItems_priceDue_b22 s v1
  else
    fItems_priceDue_b22 s (cI (-1))
  else none
def fItems_centsDue (s : ev_M) (a1 : Int32) : Option Int32 :=
  if inb a1 300 = true then
  if (s.1 (102 + (ix (cI 10))) (ix a1)) = (cI 1) then
    some (cI 0)
  else
    if inb a1 300 = true then
    some (s.1 (102 + (ix (cI 6))) (ix a1))
    else none
  else none
def fItems_serves (s : ev_M) (a1 : Int32) (a2 : Int32) : Option Int32 :=
  if inb a1 300 = true then
  if ((s.1 (102 + (ix (cI 3))) (ix a1)) &&& a2) = 0 then
    some (cI 0)
  else
    some (cI 1)
  else none
def fItems_handOver_b173 (s : ev_M) (x1 : Int32) (x6 : Int32) (x7 : Int32) : Option (ev_M × Int32) :=
  bd2 (fLog_admits s) fun s1 v2 =>
  if v2 = 0 then
    some (s1, (cI (-104)))
  else
    bd1 (fItems_come s1 x1 (cI 5)) fun s3 =>
    bd1 (fMoney_transfer s3 (cI 1) (cI 0) x6 x1) fun s4 =>
    if inb x1 300 = true then
    bd1 (fMoney_transfer s4 (cI 1) (s4.1 (102 + (ix (cI 4))) (ix x1)) x7 x1) fun s5 =>
    some (s5, (cI 1))
    else none
def fItems_handOver_b153 (s : ev_M) (x1 : Int32) (x6 : Int32) (x7 : Int32) (y0 : Int32) (y1 : Int32) : Option (ev_M × Int32) :=
  ltI (y0 + y1) fun v6 =>
  if v6 ≤ 0 then
    fItems_handOver_b173 s x1 x6 x7
  else
    bd1 (fMoney_hasRoomFor s v6) fun v7 =>
    if v7 = 0 then
      some (s, (cI (-104)))
    else
      fItems_handOver_b173 s x1 x6 x7
def fItems_handOver_b143 (s : ev_M) (x1 : Int32) (x6 : Int32) (x7 : Int32) (y0 : Int32) : Option (ev_M × Int32) :=
  if x7 ≤ 0 then
    fItems_handOver_b153 s x1 x6 x7 y0 (cI 0)
  else
    fItems_handOver_b153 s x1 x6 x7 y0 (cI 1)
def fItems_handOver_b106 (s : ev_M) (x1 : Int32) (x4 : Int32) : Option (ev_M × Int32) :=
  bd1 (fItems_priceDue s x1) fun v8 =>
  bd1 (fItems_centsDue s x1) fun v9 =>
  if x4 = (v8 + v9) then
    if v8 ≤ 0 then
      fItems_handOver_b143 s x1 v8 v9 (cI 0)
    else
      fItems_handOver_b143 s x1 v8 v9 (cI 1)
  else
    some (s, (cI (-114)))
def fItems_handOver_b90 (s : ev_M) (x1 : Int32) (x3 : Int32) (x4 : Int32) : Option (ev_M × Int32) :=
  bd1 (fItems_serves s x1 (cI 1)) fun v10 =>
  if v10 = 0 then
    fItems_handOver_b106 s x1 x4
  else
    if x3 = 0 then
      some (s, (cI (-113)))
    else
      fItems_handOver_b106 s x1 x4
def fItems_handOver (s : ev_M) (a1 : Int32) (a2 : Int32) (a3 : Int32) (a4 : Int32) (a5 : Int32) : Option (ev_M × Int32) :=
  bd1 (fItems_has s a1) fun v11 =>
  if v11 = 0 then
    some (s, (cI (-101)))
  else
    bd1 (fPH_outside s a2 (cI 1) (cI 99)) fun v12 =>
    if v12 = 0 then
      bd1 (fPH_outside s a3 (cI 0) (cI 9999)) fun v13 =>
      if v13 = 0 then
        bd1 (fPH_outside s a4 (cI 0) (cI 1000000)) fun v14 =>
        if v14 = 0 then
          if a5 = 0 then
            some (s, (cI (-103)))
          else
            if inb a1 300 = true then
            if (s.1 (102 + (ix (cI 10))) (ix a1)) = 0 then
              bd1 (fItems_serves s a1 (cI 4)) fun v15 =>
              if v15 = 0 then
                fItems_handOver_b90 s a1 a3 a4
              else
                if inb a1 300 = true then
                if a2 = (s.1 (102 + (ix (cI 5))) (ix a1)) then
                  fItems_handOver_b90 s a1 a3 a4
                else
                  some (s, (cI (-112)))
                else none
            else
              fItems_handOver_b90 s a1 a3 a4
            else none
        else
          some (s, (cI (-102)))
      else
        some (s, (cI (-102)))
    else
      some (s, (cI (-102)))
def fItems_handAtDoor_b28 (s : ev_M) (y1 : Int32) (y2 : Int32) (y3 : Int32) (y4 : Int32) (y5 : Int32) : Option (ev_M × Int32) :=
  bd2 (fItems_handOver s y1 y2 y3 y4 y5) fun s1 v2 =>
  some (s1, v2)
def fItems_handAtDoor_b27 (s : ev_M) (y1 : Int32) (y2 : Int32) (y3 : Int32) (y4 : Int32) : Option (ev_M × Int32) :=
  fItems_handAtDoor_b28 s y1 y2 y3 y4 (cI 0)
def fItems_handAtDoor (s : ev_M) (a1 : Int32) (a2 : Int32) (a3 : Int32) (a4 : Int32) : Option (ev_M × Int32) :=
  bd1 (fItems_has s a1) fun v3 =>
  if v3 = 0 then
    fItems_handAtDoor_b27 s a1 a2 a3 a4
  else
    bd1 (fItems_is s a1 (cI 4)) fun v4 =>
    if v4 = 0 then
      fItems_handAtDoor_b27 s a1 a2 a3 a4
    else
      fItems_handAtDoor_b28 s a1 a2 a3 a4 (cI 1)
def fItems_keepFor (s : ev_M) (a1 : Int32) (a2 : Int32) : Option ev_M :=
  bd1 (fItems_come s a1 (cI 6)) fun s1 =>
  bd1 (fChron_today s1) fun v2 =>
  if inb a1 300 = true then
  ltM (wI s1 (102 + (ix (cI 14))) (ix a1) (v2 + a2)) fun s3 =>
  some s3
  else none
def fItems_missAtDoor (s : ev_M) (a1 : Int32) : Option (ev_M × Int32) :=
  bd1 (fItems_has s a1) fun v1 =>
  if v1 = 0 then
    some (s, (cI (-101)))
  else
    bd1 (fItems_is s a1 (cI 4)) fun v2 =>
    if v2 = 0 then
      some (s, (cI (-103)))
    else
      bd2 (fLog_admits s) fun s3 v4 =>
      if v4 = 0 then
        some (s3, (cI (-104)))
      else
        bd1 (fItems_keepFor s3 a1 (cI 7)) fun s5 =>
        if inb a1 300 = true then
        some (s5, (s5.1 (102 + (ix (cI 14))) (ix a1)))
        else none
def fItems_goBack_b41 (s : ev_M) (x1 : Int32) (y1 : Int32) (y2 : Int32) : Option (ev_M × Int32) :=
  bd1 (fItems_come s y1 y2) fun s1 =>
  if inb x1 300 = true then
  some (s1, (s1.1 (102 + (ix (cI 0))) (ix x1)))
  else none
def fItems_goBack_b18 (s : ev_M) (x1 : Int32) (y0 : Int32) : Option (ev_M × Int32) :=
  if inb x1 300 = true then
  ltM (wI s (102 + (ix (cI 10))) (ix x1) (cI 1)) fun s2 =>
  if y0 = 0 then
    fItems_goBack_b41 s2 x1 x1 (cI 1)
  else
    fItems_goBack_b41 s2 x1 x1 (cI 7)
  else none
def fItems_goBack (s : ev_M) (a1 : Int32) : Option (ev_M × Int32) :=
  if inb a1 300 = true then
  if (s.1 (102 + (ix (cI 10))) (ix a1)) = (cI 1) then
    fItems_goBack_b18 s a1 (cI 1)
  else
    fItems_goBack_b18 s a1 (cI 0)
  else none
def fItems_isHeldAtPost (s : ev_M) (a1 : Int32) : Option Int32 :=
  bd1 (fItems_is s a1 (cI 6)) fun v1 =>
  if v1 = 0 then
    some (cI 0)
  else
    if inb a1 300 = true then
    if (s.1 (102 + (ix (cI 15))) (ix a1)) = (cI (-1)) then
      some (cI 1)
    else
      some (cI 0)
    else none
def fItems_refuseItem_b31 (s : ev_M) (x1 : Int32) : Option (ev_M × Int32) :=
  bd2 (fLog_admits s) fun s1 v2 =>
  if v2 = 0 then
    some (s1, (cI (-104)))
  else
    bd2 (fItems_goBack s1 x1) fun s3 v4 =>
    some (s3, v4)
def fItems_refuseItem (s : ev_M) (a1 : Int32) : Option (ev_M × Int32) :=
  bd1 (fItems_has s a1) fun v5 =>
  if v5 = 0 then
    some (s, (cI (-101)))
  else
    bd1 (fItems_is s a1 (cI 4)) fun v6 =>
    if v6 = 0 then
      bd1 (fItems_isHeldAtPost s a1) fun v7 =>
      if v7 = 0 then
        some (s, (cI (-103)))
      else
        fItems_refuseItem_b31 s a1
    else
      fItems_refuseItem_b31 s a1
def fItems_isFreeForLocker_b35 (s : ev_M) (x1 : Int32) (y0 : Int32) : Option Int32 :=
  if y0 = 0 then
    some (cI 0)
  else
    bd1 (fItems_priceDue s x1) fun v1 =>
    bd1 (fItems_centsDue s x1) fun v2 =>
    if (v1 + v2) = 0 then
      some (cI 1)
    else
      some (cI 0)
def fItems_isFreeForLocker_b34 (s : ev_M) (x1 : Int32) : Option Int32 :=
  fItems_isFreeForLocker_b35 s x1 (cI 0)
def fItems_isFreeForLocker (s : ev_M) (a1 : Int32) : Option Int32 :=
  if inb a1 300 = true then
  if (s.1 (102 + (ix (cI 1))) (ix a1)) ≤ (cI 1) then
    bd1 (fItems_serves s a1 (cI 4)) fun v3 =>
    if v3 = 0 then
      bd1 (fItems_serves s a1 (cI 1)) fun v4 =>
      if v4 = 0 then
        fItems_isFreeForLocker_b35 s a1 (cI 1)
      else
        fItems_isFreeForLocker_b34 s a1
    else
      fItems_isFreeForLocker_b34 s a1
  else
    fItems_isFreeForLocker_b34 s a1
  else none
def fLock_boxWith_h2 (s : ev_M) : Nat → Int32 → Int32 → Int32 → Option Int32
  | 0, _, _, _ => none
  | n + 1, x1, x2, x3 =>
    if inb x1 8 = true then
    if x3 < (s.1 127 (ix x1)) then
      if inb x1 8 = true then
      if inb x3 10 = true then
      if (s.1 (130 + (ix x1)) (ix x3)) = x2 then
        some x3
      else
        (fLock_boxWith_h2 s n) x1 x2 (x3 + cI 1)
      else none
      else none
    else
      some (cI (-1))
    else none
def fLock_boxWith (s : ev_M) (a1 : Int32) (a2 : Int32) : Option Int32 :=
  fLock_boxWith_h2 s 1048576 a1 a2 (cI 0)
def fLock_has (s : ev_M) (a1 : Int32) : Option Int32 :=
  bd1 (fPH_outside s a1 (cI 0) ((s.1 125 3) - (cI 1))) fun v1 =>
  if v1 = 0 then
    some (cI 1)
  else
    some (cI 0)
def fLock_fill_b60 (s : ev_M) (x1 : Int32) (x2 : Int32) (y0 : Int32) : Option (ev_M × Int32) :=
  if y0 = 0 then
    some (s, (cI (-103)))
  else
    bd1 (fItems_isFreeForLocker s x1) fun v1 =>
    if v1 = 0 then
      some (s, (cI (-103)))
    else
      bd1 (fLock_boxWith s x2 (cI (-1))) fun v2 =>
      if v2 = (cI (-1)) then
        some (s, (cI (-104)))
      else
        bd2 (fLog_admits s) fun s3 v4 =>
        if v4 = 0 then
          some (s3, (cI (-104)))
        else
          if inb x2 8 = true then
          if inb v2 10 = true then
          ltM (wI s3 (130 + (ix x2)) (ix v2) x1) fun s5 =>
          bd1 (fItems_keepFor s5 x1 (cI 3)) fun s6 =>
          if inb x1 300 = true then
          ltM (wI s6 (102 + (ix (cI 15))) (ix x1) x2) fun s7 =>
          some (s7, v2)
          else none
          else none
          else none
def fLock_fill_b59 (s : ev_M) (x1 : Int32) (x2 : Int32) : Option (ev_M × Int32) :=
  fLock_fill_b60 s x1 x2 (cI 0)
def fLock_fill (s : ev_M) (a1 : Int32) (a2 : Int32) : Option (ev_M × Int32) :=
  bd1 (fItems_has s a1) fun v8 =>
  if v8 = 0 then
    some (s, (cI (-101)))
  else
    bd1 (fLock_has s a2) fun v9 =>
    if v9 = 0 then
      some (s, (cI (-101)))
    else
      bd1 (fItems_is s a1 (cI 4)) fun v10 =>
      if v10 = 0 then
        fLock_fill_b59 s a1 a2
      else
        if inb a1 300 = true then
        if inb a2 8 = true then
        if (s.1 (102 + (ix (cI 8))) (ix a1)) = (s.1 126 (ix a2)) then
          fLock_fill_b60 s a1 a2 (cI 1)
        else
          fLock_fill_b59 s a1 a2
        else none
        else none
def fItems_handAtPost_b27 (s : ev_M) (y1 : Int32) (y2 : Int32) (y3 : Int32) (y4 : Int32) (y5 : Int32) : Option (ev_M × Int32) :=
  bd2 (fItems_handOver s y1 y2 y3 y4 y5) fun s1 v2 =>
  some (s1, v2)
def fItems_handAtPost_b26 (s : ev_M) (y1 : Int32) (y2 : Int32) (y3 : Int32) (y4 : Int32) : Option (ev_M × Int32) :=
  fItems_handAtPost_b27 s y1 y2 y3 y4 (cI 0)
def fItems_handAtPost (s : ev_M) (a1 : Int32) (a2 : Int32) (a3 : Int32) (a4 : Int32) : Option (ev_M × Int32) :=
  bd1 (fItems_has s a1) fun v3 =>
  if v3 = 0 then
    fItems_handAtPost_b26 s a1 a2 a3 a4
  else
    bd1 (fItems_isHeldAtPost s a1) fun v4 =>
    if v4 = 0 then
      fItems_handAtPost_b26 s a1 a2 a3 a4
    else
      fItems_handAtPost_b27 s a1 a2 a3 a4 (cI 1)
def fLock_keyOf (s : ev_M) (a0 : Int32) : Option Int32 :=
  if (cI 9000) = 0 then none else
  some ((cI 1000) + (irem (iushr (((a0 + (cI 1)) * (cI 1103515245)) + (cI 12345)) (cI 16)) (cI 9000)))
def fLock_tryKey_b96 (k39 : ev_M → Int32 → Int32 → Int32 → Option (ev_M × Int32)) (s : ev_M) (x1 : Int32) (x2 : Int32) (x3 : Int32) : Option (ev_M × Int32) :=
  k39 s x1 x2 (x3 + cI 1)
def fLock_tryKey_h39 : Nat → ev_M → Int32 → Int32 → Int32 → Option (ev_M × Int32)
  | 0, _, _, _, _ => none
  | n + 1, s, x1, x2, x3 =>
    if inb x1 8 = true then
    if x3 < (s.1 127 (ix x1)) then
      if inb x1 8 = true then
      if inb x3 10 = true then
      ltI (s.1 (130 + (ix x1)) (ix x3)) fun v1 =>
      if v1 = (cI (-1)) then
        fLock_tryKey_b96 (fLock_tryKey_h39 n) s x1 x2 x3
      else
        bd1 (fLock_keyOf s v1) fun v2 =>
        if v2 = x2 then
          if inb x1 8 = true then
          if inb x3 10 = true then
          ltM (wI s (130 + (ix x1)) (ix x3) (cI (-1))) fun s3 =>
          bd1 (fItems_come s3 v1 (cI 5)) fun s4 =>
          some (s4, v1)
          else none
          else none
        else
          fLock_tryKey_b96 (fLock_tryKey_h39 n) s x1 x2 x3
      else none
      else none
    else
      if inb x1 8 = true then
      if inb x1 8 = true then
      ltM (wI s 128 (ix x1) ((s.1 128 (ix x1)) + (cI 1))) fun s5 =>
      some (s5, (cI (-1)))
      else none
      else none
    else none
def fLock_tryKey (s : ev_M) (a1 : Int32) (a2 : Int32) : Option (ev_M × Int32) :=
  bd1 (fLock_has s a1) fun v6 =>
  if v6 = 0 then
    some (s, (cI (-101)))
  else
    if inb a1 8 = true then
    if (s.1 128 (ix a1)) < (cI 3) then
      bd2 (fLog_admits s) fun s7 v8 =>
      if v8 = 0 then
        some (s7, (cI (-104)))
      else
        fLock_tryKey_h39 1048576 s7 a1 a2 (cI 0)
    else
      some (s, (cI (-115)))
    else none
def fItems_isEnded_b29 (s : ev_M) : Option Int32 :=
  some (cI 1)
def fItems_isEnded (s : ev_M) (a1 : Int32) : Option Int32 :=
  bd1 (fItems_is s a1 (cI 5)) fun v1 =>
  if v1 = 0 then
    bd1 (fItems_is s a1 (cI 7)) fun v2 =>
    if v2 = 0 then
      bd1 (fItems_is s a1 (cI 8)) fun v3 =>
      if v3 = 0 then
        some (cI 0)
      else
        fItems_isEnded_b29 s
    else
      fItems_isEnded_b29 s
  else
    fItems_isEnded_b29 s
def fPH_without_466_b36 (k5 : ev_M → Nat → Int32 → Int32 → Int32 → Int32 → Option (ev_M × Int32)) (s : ev_M) (i0 : Nat) (x1 : Int32) (x2 : Int32) (x3 : Int32) (x4 : Int32) : Option (ev_M × Int32) :=
  k5 s i0 x1 x2 x3 (x4 + cI 1)
def fPH_without_466_h5 : Nat → ev_M → Nat → Int32 → Int32 → Int32 → Int32 → Option (ev_M × Int32)
  | 0, _, _, _, _, _, _ => none
  | n + 1, s, i0, x1, x2, x3, x4 =>
    if x4 < x1 then
      if x4 < (cI 40) then
        if inb x4 40 = true then
        if (s.1 (466 + i0) (ix x4)) = x2 then
          fPH_without_466_b36 (fPH_without_466_h5 n) s i0 x1 x2 x3 x4
        else
          if inb x4 40 = true then
          if inb x3 40 = true then
          ltM (wI s (466 + i0) (ix x3) (s.1 (466 + i0) (ix x4))) fun s1 =>
          fPH_without_466_b36 (fPH_without_466_h5 n) s1 i0 x1 x2 (x3 + cI 1) x4
          else none
          else none
        else none
      else
        some (s, x3)
    else
      some (s, x3)
def fPH_without_466 (s : ev_M) (i0 : Nat) (a1 : Int32) (a2 : Int32) : Option (ev_M × Int32) :=
  fPH_without_466_h5 1048576 s i0 a1 a2 (cI 0) (cI 0)
def fLines_drop (s : ev_M) (a1 : Int32) : Option ev_M :=
  if inb a1 300 = true then
  ltI (s.1 (102 + (ix (cI 9))) (ix a1)) fun v1 =>
  bd1 (fLines_hasBag s v1) fun v2 =>
  if v2 = 0 then
    some s
  else
    if inb v1 80 = true then
    if inb v1 80 = true then
    bd2 (fPH_without_466 s (ix v1) (s.1 (459 + (ix (cI 3))) (ix v1)) a1) fun s3 v4 =>
    if inb v1 80 = true then
    ltM (wI s3 (459 + (ix (cI 3))) (ix v1) v4) fun s5 =>
    some s5
    else none
    else none
    else none
  else none
def fPH_without_160_b36 (k5 : ev_M → Nat → Int32 → Int32 → Int32 → Int32 → Option (ev_M × Int32)) (s : ev_M) (i0 : Nat) (x1 : Int32) (x2 : Int32) (x3 : Int32) (x4 : Int32) : Option (ev_M × Int32) :=
  k5 s i0 x1 x2 x3 (x4 + cI 1)
def fPH_without_160_h5 : Nat → ev_M → Nat → Int32 → Int32 → Int32 → Int32 → Option (ev_M × Int32)
  | 0, _, _, _, _, _, _ => none
  | n + 1, s, i0, x1, x2, x3, x4 =>
    if x4 < x1 then
      if x4 < (cI 300) then
        if inb x4 300 = true then
        if (s.1 (160 + i0) (ix x4)) = x2 then
          fPH_without_160_b36 (fPH_without_160_h5 n) s i0 x1 x2 x3 x4
        else
          if inb x4 300 = true then
          if inb x3 300 = true then
          ltM (wI s (160 + i0) (ix x3) (s.1 (160 + i0) (ix x4))) fun s1 =>
          fPH_without_160_b36 (fPH_without_160_h5 n) s1 i0 x1 x2 (x3 + cI 1) x4
          else none
          else none
        else none
      else
        some (s, x3)
    else
      some (s, x3)
def fPH_without_160 (s : ev_M) (i0 : Nat) (a1 : Int32) (a2 : Int32) : Option (ev_M × Int32) :=
  fPH_without_160_h5 1048576 s i0 a1 a2 (cI 0) (cI 0)
def fRounds_drop_h15 : Nat → ev_M → Int32 → Int32 → Option ev_M
  | 0, _, _, _ => none
  | n + 1, s, x1, x2 =>
    if x2 < (s.1 138 3) then
      if inb x2 12 = true then
      if inb x2 12 = true then
      bd2 (fPH_without_160 s (ix x2) (s.1 (140 + (ix (cI 4))) (ix x2)) x1) fun s1 v2 =>
      if inb x2 12 = true then
      ltM (wI s1 (140 + (ix (cI 4))) (ix x2) v2) fun s3 =>
      (fRounds_drop_h15 n) s3 x1 (x2 + cI 1)
      else none
      else none
      else none
    else
      some s
def fRounds_drop (s : ev_M) (a1 : Int32) : Option ev_M :=
  bd1 (fItems_is s a1 (cI 3)) fun v4 =>
  if v4 = 0 then
    some s
  else
    fRounds_drop_h15 1048576 s a1 (cI 0)
def fLock_drop (s : ev_M) (a1 : Int32) : Option ev_M :=
  if inb a1 300 = true then
  ltI (s.1 (102 + (ix (cI 15))) (ix a1)) fun v1 =>
  bd1 (fLock_has s v1) fun v2 =>
  if v2 = 0 then
    some s
  else
    bd1 (fLock_boxWith s v1 a1) fun v3 =>
    if v3 = (cI (-1)) then
      some s
    else
      if inb v1 8 = true then
      if inb v3 10 = true then
      ltM (wI s (130 + (ix v1)) (ix v3) (cI (-1))) fun s4 =>
      some s4
      else none
      else none
  else none
def fPH_loseItem (s : ev_M) (a1 : Int32) : Option (ev_M × Int32) :=
  bd1 (fItems_has s a1) fun v1 =>
  if v1 = 0 then
    some (s, (cI (-101)))
  else
    bd1 (fItems_isEnded s a1) fun v2 =>
    if v2 = 0 then
      bd2 (fLog_admits s) fun s3 v4 =>
      if v4 = 0 then
        some (s3, (cI (-104)))
      else
        bd1 (fLines_drop s3 a1) fun s5 =>
        bd1 (fRounds_drop s5 a1) fun s6 =>
        bd1 (fLock_drop s6 a1) fun s7 =>
        bd1 (fItems_come s7 a1 (cI 8)) fun s8 =>
        some (s8, (cI 1))
    else
      some (s, (cI (-103)))
def fMoney_openAccount (s : ev_M) (a1 : Int32) : Option (ev_M × Int32) :=
  bd1 (fBook_hasPoint s a1) fun v1 =>
  if v1 = 0 then
    some (s, (cI (-101)))
  else
    if (s.1 78 3) < (cI 30) then
      bd2 (fLog_admits s) fun s2 v3 =>
      if v3 = 0 then
        some (s2, (cI (-104)))
      else
        ltM (wI s2 78 3 ((s2.1 78 3) + (cI 1))) fun s4 =>
        ltI ((cI 4) + (s2.1 78 3)) fun v5 =>
        if inb v5 34 = true then
        ltM (wI s4 79 (ix v5) a1) fun s6 =>
        some (s6, v5)
        else none
    else
      some (s, (cI (-104)))
def fMoney_payIn (s : ev_M) (a1 : Int32) (a2 : Int32) : Option (ev_M × Int32) :=
  bd1 (fMoney_isCustomer s a1) fun v1 =>
  if v1 = 0 then
    some (s, (cI (-101)))
  else
    bd1 (fPH_outside s a2 (cI 1) (cI 1000000)) fun v2 =>
    if v2 = 0 then
      bd1 (fMoney_hasRoomFor s (cI 1)) fun v3 =>
      if v3 = 0 then
        some (s, (cI (-104)))
      else
        bd2 (fLog_admits s) fun s4 v5 =>
        if v5 = 0 then
          some (s4, (cI (-104)))
        else
          bd1 (fMoney_transfer s4 (cI 1) a1 a2 (cI (-1))) fun s6 =>
          if inb a1 34 = true then
          some (s6, (Int64.toInt32 (s6.2.1 80 (ix a1))))
          else none
    else
      some (s, (cI (-102)))
def fTape_readsEntry_1_1011_h56 : Nat → ev_M → Int32 → Int32 → Option (ev_M × Int32)
  | 0, _, _, _ => none
  | n + 1, s, x2, x3 =>
    bd1 (fSlen 1011) fun v1 =>
    if x3 < v1 then
      bd1 (fSat 1011 x3) fun v2 =>
      bd2 (fTape_reads_1 s v2) fun s3 v4 =>
      if v4 = 0 then
        some (s3, (cI (-1)))
      else
        if v2 = (cI 59) then
          some (s3, x2)
        else
          (fTape_readsEntry_1_1011_h56 n) s3 x2 (x3 + cI 1)
    else
      some (s, (cI (-1)))
def fTape_readsEntry_1_1011_b36 (s : ev_M) (x2 : Int32) (y0 : Int32) : Option (ev_M × Int32) :=
  if y0 < 0 then
    some (s, (cI (-1)))
  else
    ltM (wI s 1 2 ((s.1 1 2) + (cI 1))) fun s5 =>
    fTape_readsEntry_1_1011_h56 1048576 s5 x2 (y0 + cI 1)
def fTape_readsEntry_1_1011_b35 (s : ev_M) (x2 : Int32) : Option (ev_M × Int32) :=
  fTape_readsEntry_1_1011_b36 s x2 (cI (-1))
def fTape_readsEntry_1_1011 (s : ev_M) : Option (ev_M × Int32) :=
  ltM (wI s 1 4 (cI 0)) fun s6 =>
  bd1 (fTape_byteAt_1 s6 (s6.1 1 2)) fun v7 =>
  if v7 < (cI 65) then
    fTape_readsEntry_1_1011_b35 s6 v7
  else
    if v7 ≤ (cI 90) then
      bd1 (fSix 1011 (i2c v7)) fun v8 =>
      fTape_readsEntry_1_1011_b36 s6 v7 v8
    else
      fTape_readsEntry_1_1011_b35 s6 v7
def fMoney_addsRow (s : ev_M) (a1 : Int32) (a2 : Int32) (a3 : Int32) : Option (ev_M × Int32) :=
  bd1 (fPH_outside s a3 (cI 0) (cI 9999)) fun v1 =>
  if v1 = 0 then
    if (s.1 78 13) < (cI 40) then
      if inb (s.1 78 13) 40 = true then
      ltM (wI s (97 + (ix (cI 0))) (ix (s.1 78 13)) a1) fun s2 =>
      if inb (s2.1 78 13) 40 = true then
      ltM (wI s2 (97 + (ix (cI 1))) (ix (s2.1 78 13)) a2) fun s3 =>
      ltM (wI s3 78 13 ((s3.1 78 13) + (cI 1))) fun s4 =>
      if inb (s3.1 78 13) 40 = true then
      ltM (wI s4 (97 + (ix (cI 2))) (ix (s3.1 78 13)) a3) fun s5 =>
      some (s5, (cI 1))
      else none
      else none
      else none
    else
      some (s, (cI 0))
  else
    some (s, (cI 0))
def fMoney_addsService_b53 (k19 : ev_M → Int32 → Int32 → Int32 → Option (ev_M × Int32)) (s : ev_M) (x1 : Int32) (x2 : Int32) (x3 : Int32) : Option (ev_M × Int32) :=
  k19 s x1 x2 (x3 + cI 1)
def fMoney_addsService_h19 : Nat → ev_M → Int32 → Int32 → Int32 → Option (ev_M × Int32)
  | 0, _, _, _, _ => none
  | n + 1, s, x1, x2, x3 =>
    if x3 < (s.1 78 13) then
      if inb x3 40 = true then
      if (s.1 (97 + (ix (cI 0))) (ix x3)) = (cI (-1)) then
        if inb x3 40 = true then
        if (s.1 (97 + (ix (cI 1))) (ix x3)) = x1 then
          some (s, (cI 0))
        else
          fMoney_addsService_b53 (fMoney_addsService_h19 n) s x1 x2 x3
        else none
      else
        fMoney_addsService_b53 (fMoney_addsService_h19 n) s x1 x2 x3
      else none
    else
      bd2 (fMoney_addsRow s (cI (-1)) x1 x2) fun s1 v2 =>
      if bz v2 = true then some (s1, v2) else none
def fMoney_addsService_b17 (s : ev_M) (x1 : Int32) (x2 : Int32) : Option (ev_M × Int32) :=
  fMoney_addsService_h19 1048576 s x1 x2 (cI 0)
def fMoney_addsService (s : ev_M) (a1 : Int32) (a2 : Int32) : Option (ev_M × Int32) :=
  if a1 = (cI 1) then
    fMoney_addsService_b17 s a1 a2
  else
    if a1 = (cI 2) then
      fMoney_addsService_b17 s a1 a2
    else
      if a1 = (cI 4) then
        fMoney_addsService_b17 s a1 a2
      else
        some (s, (cI 0))
def fMoney_adds_1_b102 (k64 : ev_M → Int32 → Int32 → Int32 → Option (ev_M × Int32)) (s : ev_M) (x3 : Int32) (x4 : Int32) (x5 : Int32) : Option (ev_M × Int32) :=
  k64 s x3 x4 (x5 + cI 1)
def fMoney_adds_1_h64 : Nat → ev_M → Int32 → Int32 → Int32 → Option (ev_M × Int32)
  | 0, _, _, _, _ => none
  | n + 1, s, x3, x4, x5 =>
    if x5 < (s.1 78 13) then
      if inb x5 40 = true then
      if (s.1 (97 + (ix (cI 0))) (ix x5)) = x3 then
        if inb x5 40 = true then
        if (s.1 (97 + (ix (cI 1))) (ix x5)) < x4 then
          fMoney_adds_1_b102 (fMoney_adds_1_h64 n) s x3 x4 x5
        else
          some (s, (cI 0))
        else none
      else
        fMoney_adds_1_b102 (fMoney_adds_1_h64 n) s x3 x4 x5
      else none
    else
      bd2 (fMoney_addsRow s x3 x4 (s.1 3 (ix (cI 2)))) fun s1 v2 =>
      if bz v2 = true then some (s1, v2) else none
def fMoney_adds_1 (s : ev_M) (a1 : Int32) : Option (ev_M × Int32) :=
  if a1 = (cI 86) then
    bd2 (fMoney_addsService s (s.1 3 (ix (cI 0))) (s.1 3 (ix (cI 1)))) fun s3 v4 =>
    if bz v4 = true then some (s3, v4) else none
  else
    ltI (s.1 3 (ix (cI 0))) fun v5 =>
    ltI (s.1 3 (ix (cI 1))) fun v6 =>
    bd1 (fPH_outside s v5 (cI 0) (cI 3)) fun v7 =>
    if v7 = 0 then
      bd1 (fPH_outside s v6 (cI 1) (cI 30000)) fun v8 =>
      if v8 = 0 then
        fMoney_adds_1_h64 1048576 s v5 v6 (cI 0)
      else
        some (s, (cI 0))
    else
      some (s, (cI 0))
def fMoney_readTariff_1_b78 (k14 : ev_M → Int32 → Int32 → Option (ev_M × Int32)) (s : ev_M) (x2 : Int32) (x3 : Int32) : Option (ev_M × Int32) :=
  k14 s x2 (x3 + cI 1)
def fMoney_readTariff_1_b37 (k14 : ev_M → Int32 → Int32 → Option (ev_M × Int32)) (s : ev_M) (x2 : Int32) (x3 : Int32) : Option (ev_M × Int32) :=
  ltI (s.1 1 2) fun v1 =>
  bd2 (fTape_readsEntry_1_1011 s) fun s2 v3 =>
  if v3 = (cI (-1)) then
    ltI (s2.1 1 2) fun v4 =>
    fMoney_readTariff_1_b78 k14 s2 v4 x3
  else
    bd2 (fMoney_adds_1 s2 v3) fun s5 v6 =>
    if v6 = 0 then
      fMoney_readTariff_1_b78 k14 s5 v1 x3
    else
      fMoney_readTariff_1_b78 k14 s5 x2 x3
def fMoney_readTariff_1_h118 : Nat → ev_M → Int32 → Option (ev_M × Int32)
  | 0, _, _ => none
  | n + 1, s, x3 =>
    if x3 ≤ (cI 2) then
      if inb x3 3 = true then
      if inb x3 3 = true then
      bd1 (fACP s 40 40 (97 + (ix x3)) (93 + (ix x3)) (cI 0) (cI 0) (s.1 78 11)) fun s7 =>
      (fMoney_readTariff_1_h118 n) s7 (x3 + cI 1)
      else none
      else none
    else
      some (s, (s.1 78 11))
def fMoney_readTariff_1_b84 (s : ev_M) (x2 : Int32) : Option (ev_M × Int32) :=
  if x2 = (cI (-1)) then
    bd2 (fLog_admits s) fun s8 v9 =>
    if v9 = 0 then
      some (s8, (cI (-104)))
    else
      ltM (wI s8 78 11 (s8.1 78 13)) fun s10 =>
      fMoney_readTariff_1_h118 1048576 s10 (cI 0)
  else
    some (s, ((cI (-1000)) - x2))
def fMoney_readTariff_1_h14 : Nat → ev_M → Int32 → Int32 → Option (ev_M × Int32)
  | 0, _, _, _ => none
  | n + 1, s, x2, x3 =>
    if x3 < (cI 4096) then
      if x2 = (cI (-1)) then
        if x3 = 0 then
          fMoney_readTariff_1_b37 (fMoney_readTariff_1_h14 n) s x2 x3
        else
          bd1 (fTape_hasMore_1 s) fun v11 =>
          if v11 = 0 then
            fMoney_readTariff_1_b84 s x2
          else
            fMoney_readTariff_1_b37 (fMoney_readTariff_1_h14 n) s x2 x3
      else
        fMoney_readTariff_1_b84 s x2
    else
      fMoney_readTariff_1_b84 s x2
def fMoney_readTariff_1 (s : ev_M) : Option (ev_M × Int32) :=
  ltM (wI s 78 13 (cI 0)) fun s12 =>
  ltM (wI s12 1 2 (cI 0)) fun s13 =>
  fMoney_readTariff_1_h14 1048576 s13 (cI (-1)) (cI 0)
def fItems_frankItem_b88 (s : ev_M) (x1 : Int32) (x2 : Int32) (x3 : Int32) : Option (ev_M × Int32) :=
  bd2 (fLog_admits s) fun s1 v2 =>
  if v2 = 0 then
    some (s1, (cI (-104)))
  else
    bd1 (fMoney_transfer s1 x3 (cI 0) x2 x1) fun s3 =>
    if inb x1 300 = true then
    ltM (wI s3 (102 + (ix (cI 11))) (ix x1) x2) fun s4 =>
    some (s4, x2)
    else none
def fItems_frankItem (s : ev_M) (a1 : Int32) : Option (ev_M × Int32) :=
  bd1 (fItems_has s a1) fun v5 =>
  if v5 = 0 then
    some (s, (cI (-101)))
  else
    bd1 (fItems_priceOf s a1) fun v6 =>
    if inb a1 300 = true then
    if (s.1 (102 + (ix (cI 11))) (ix a1)) = (cI (-1)) then
      bd1 (fItems_isAtHand s a1) fun v7 =>
      if v7 = 0 then
        some (s, (cI (-103)))
      else
        if v6 = (cI (-1)) then
          some (s, (cI (-103)))
        else
          if inb a1 300 = true then
          ltI (s.1 (102 + (ix (cI 4))) (ix a1)) fun v8 =>
          if inb v8 34 = true then
          if (lg_cmp (s.2.1 80 (ix v8)) (Int32.toInt64 v6)) < 0 then
            some (s, (cI (-116)))
          else
            if v6 ≤ 0 then
              fItems_frankItem_b88 s a1 v6 v8
            else
              bd1 (fMoney_hasRoomFor s (cI 1)) fun v9 =>
              if v9 = 0 then
                some (s, (cI (-104)))
              else
                fItems_frankItem_b88 s a1 v6 v8
          else none
          else none
    else
      some (s, (cI (-103)))
    else none
def fMoney_makeOrder (s : ev_M) (a1 : Int32) (a2 : Int32) (a3 : Int32) : Option (ev_M × Int32) :=
  bd1 (fMoney_isCustomer s a1) fun v1 =>
  if v1 = 0 then
    some (s, (cI (-101)))
  else
    bd1 (fPH_outside s a2 (cI 1) (cI 99)) fun v2 =>
    if v2 = 0 then
      bd1 (fPH_outside s a3 (cI 1) (cI 100000)) fun v3 =>
      if v3 = 0 then
        if inb a1 34 = true then
        if (lg_cmp (s.2.1 80 (ix a1)) (Int32.toInt64 a3)) < 0 then
          some (s, (cI (-116)))
        else
          if (s.1 78 8) < (cI 60) then
            bd1 (fMoney_hasRoomFor s (cI 2)) fun v4 =>
            if v4 = 0 then
              some (s, (cI (-104)))
            else
              bd2 (fLog_admits s) fun s5 v6 =>
              if v6 = 0 then
                some (s5, (cI (-104)))
              else
                bd1 (fMoney_transfer s5 a1 (cI 3) a3 (cI (-1))) fun s7 =>
                if inb (s7.1 78 8) 60 = true then
                ltM (wI s7 (87 + (ix (cI 0))) (ix (s7.1 78 8)) (cI 0)) fun s8 =>
                if inb (s8.1 78 8) 60 = true then
                ltM (wI s8 (87 + (ix (cI 1))) (ix (s8.1 78 8)) a1) fun s9 =>
                if inb (s9.1 78 8) 60 = true then
                ltM (wI s9 (87 + (ix (cI 2))) (ix (s9.1 78 8)) a2) fun s10 =>
                if inb (s10.1 78 8) 60 = true then
                ltM (wI s10 (87 + (ix (cI 3))) (ix (s10.1 78 8)) a3) fun s11 =>
                bd1 (fChron_today s11) fun v12 =>
                if inb (s11.1 78 8) 60 = true then
                ltM (wI s11 (87 + (ix (cI 4))) (ix (s11.1 78 8)) (v12 + (cI 30))) fun s13 =>
                ltM (wI s13 78 9 ((s13.1 78 9) + (cI 1))) fun s14 =>
                ltM (wI s14 78 8 ((s14.1 78 8) + (cI 1))) fun s15 =>
                some (s15, (s14.1 78 8))
                else none
                else none
                else none
                else none
                else none
          else
            some (s, (cI (-104)))
        else none
      else
        some (s, (cI (-102)))
    else
      some (s, (cI (-102)))
def fMoney_hasOrder (s : ev_M) (a1 : Int32) : Option Int32 :=
  bd1 (fPH_outside s a1 (cI 0) ((s.1 78 8) - (cI 1))) fun v1 =>
  if v1 = 0 then
    some (cI 1)
  else
    some (cI 0)
def fMoney_settle (s : ev_M) (a1 : Int32) (a2 : Int32) (a3 : Int32) : Option ev_M :=
  if inb a1 60 = true then
  bd1 (fMoney_transfer s (cI 3) a3 (s.1 (87 + (ix (cI 3))) (ix a1)) (cI (-1))) fun s1 =>
  if inb a1 60 = true then
  ltM (wI s1 (87 + (ix (cI 0))) (ix a1) a2) fun s2 =>
  ltM (wI s2 78 9 ((s2.1 78 9) - (cI 1))) fun s3 =>
  some s3
  else none
  else none
def fMoney_payOrder (s : ev_M) (a1 : Int32) (a2 : Int32) (a3 : Int32) : Option (ev_M × Int32) :=
  bd1 (fMoney_hasOrder s a1) fun v1 =>
  if v1 = 0 then
    some (s, (cI (-101)))
  else
    bd1 (fPH_outside s a2 (cI 1) (cI 99)) fun v2 =>
    if v2 = 0 then
      bd1 (fPH_outside s a3 (cI 0) (cI 9999)) fun v3 =>
      if v3 = 0 then
        if inb a1 60 = true then
        if (s.1 (87 + (ix (cI 0))) (ix a1)) = 0 then
          if inb a1 60 = true then
          if (s.1 (87 + (ix (cI 2))) (ix a1)) = a2 then
            if a3 = 0 then
              some (s, (cI (-113)))
            else
              bd2 (fLog_admits s) fun s4 v5 =>
              if v5 = 0 then
                some (s4, (cI (-104)))
              else
                bd1 (fMoney_settle s4 a1 (cI 1) (cI 1)) fun s6 =>
                if inb a1 60 = true then
                some (s6, (s6.1 (87 + (ix (cI 3))) (ix a1)))
                else none
          else
            some (s, (cI (-112)))
          else none
        else
          some (s, (cI (-103)))
        else none
      else
        some (s, (cI (-102)))
    else
      some (s, (cI (-102)))
def fItems_claimFor (s : ev_M) (a1 : Int32) (a2 : Int32) : Option (ev_M × Int32) :=
  bd1 (fItems_has s a1) fun v1 =>
  if v1 = 0 then
    some (s, (cI (-101)))
  else
    bd1 (fPH_outside s a2 (cI 1) (cI 100000)) fun v2 =>
    if v2 = 0 then
      bd1 (fItems_is s a1 (cI 8)) fun v3 =>
      if v3 = 0 then
        some (s, (cI (-103)))
      else
        bd1 (fItems_serves s a1 (cI 1)) fun v4 =>
        if v4 = 0 then
          some (s, (cI (-103)))
        else
          if inb a1 300 = true then
          if (s.1 (102 + (ix (cI 18))) (ix a1)) = (cI 1) then
            some (s, (cI (-103)))
          else
            bd1 (fMoney_hasRoomFor s (cI 1)) fun v5 =>
            if v5 = 0 then
              some (s, (cI (-104)))
            else
              bd2 (fLog_admits s) fun s6 v7 =>
              if v7 = 0 then
                some (s6, (cI (-104)))
              else
                bd1 (fMath_min s6 a2 (cI 5000)) fun v8 =>
                if inb a1 300 = true then
                bd1 (fMoney_transfer s6 (cI 2) (s6.1 (102 + (ix (cI 4))) (ix a1)) v8 a1) fun s9 =>
                if inb a1 300 = true then
                ltM (wI s9 (102 + (ix (cI 18))) (ix a1) (cI 1)) fun s10 =>
                some (s10, v8)
                else none
                else none
          else none
    else
      some (s, (cI (-102)))
def fArr_fillI_130_h5 : Nat → ev_M → Nat → Int32 → Int32 → Int32 → Option ev_M
  | 0, _, _, _, _, _ => none
  | n + 1, s, i0, x1, x2, x3 =>
    if x2 < x3 then
      if inb x2 10 = true then
      ltM (wI s (130 + i0) (ix x2) x1) fun s1 =>
      (fArr_fillI_130_h5 n) s1 i0 x1 (x2 + cI 1) x3
      else none
    else
      some s
def fArr_fillI_130 (s : ev_M) (i0 : Nat) (a1 : Int32) : Option ev_M :=
  fArr_fillI_130_h5 1048576 s i0 a1 (cI 0) (cI 10)
def fLock_make (s : ev_M) (a1 : Int32) (a2 : Int32) : Option (ev_M × Int32) :=
  bd1 (fBook_hasPlace s a1) fun v1 =>
  if v1 = 0 then
    some (s, (cI (-101)))
  else
    bd1 (fPH_outside s a2 (cI 1) (cI 10)) fun v2 =>
    if v2 = 0 then
      if (s.1 125 3) < (cI 8) then
        bd2 (fLog_admits s) fun s3 v4 =>
        if v4 = 0 then
          some (s3, (cI (-104)))
        else
          if inb (s3.1 125 3) 8 = true then
          ltM (wI s3 126 (ix (s3.1 125 3)) a1) fun s5 =>
          if inb (s5.1 125 3) 8 = true then
          ltM (wI s5 127 (ix (s5.1 125 3)) a2) fun s6 =>
          if inb (s6.1 125 3) 8 = true then
          ltM (wI s6 128 (ix (s6.1 125 3)) (cI 0)) fun s7 =>
          if inb (s7.1 125 3) 8 = true then
          bd1 (fArr_fillI_130 s7 (ix (s7.1 125 3)) (cI (-1))) fun s8 =>
          ltM (wI s8 125 3 ((s8.1 125 3) + (cI 1))) fun s9 =>
          some (s9, (s8.1 125 3))
          else none
          else none
          else none
          else none
      else
        some (s, (cI (-104)))
    else
      some (s, (cI (-102)))
def fChron_setDevice (s : ev_M) (a1 : Int32) (a2 : Int32) : Option (ev_M × Int32) :=
  bd1 (fPH_outside s a1 (cI 0) (cI 7)) fun v1 =>
  if v1 = 0 then
    bd1 (fPH_outside s a2 (cI 0) (cI 1000000000)) fun v2 =>
    if v2 = 0 then
      bd2 (fLog_admits s) fun s3 v4 =>
      if v4 = 0 then
        some (s3, (cI (-104)))
      else
        if inb a1 8 = true then
        ltM (wI s3 29 (ix a1) ((s3.1 15 1) - a2)) fun s5 =>
        if inb a1 8 = true then
        some (s5, (s5.1 29 (ix a1)))
        else none
        else none
    else
      some (s, (cI (-102)))
  else
    some (s, (cI (-101)))
def fChron_scanBy (s : ev_M) (a1 : Int32) (a2 : Int32) (a3 : Int32) (a4 : Int32) : Option (ev_M × Int32) :=
  bd1 (fPH_outside s a1 (cI 0) (cI 7)) fun v1 =>
  if v1 = 0 then
    bd1 (fPH_outside s a3 (cI 0) (cI 9)) fun v2 =>
    if v2 = 0 then
      bd1 (fPH_outside s a4 (cI 0) (cI 1000000000)) fun v3 =>
      if v3 = 0 then
        if inb a1 8 = true then
        ltI (a4 + (s.1 29 (ix a1))) fun v4 =>
        bd1 (fPH_outside s v4 (cI 0) (s.1 15 1)) fun v5 =>
        if v5 = 0 then
          bd2 (fLog_admits s) fun s6 v7 =>
          if v7 = 0 then
            some (s6, (cI (-104)))
          else
            bd1 (fChron_keep s6 a2 ((cI 20) + a3) (cI (-1)) v4) fun s8 =>
            some (s8, (cI 1))
        else
          some (s, (cI (-102)))
        else none
      else
        some (s, (cI (-102)))
    else
      some (s, (cI (-102)))
  else
    some (s, (cI (-101)))
def fPH_scanItem (s : ev_M) (a1 : Int32) (a2 : Int32) (a3 : Int32) (a4 : Int32) : Option (ev_M × Int32) :=
  bd1 (fItems_has s a2) fun v1 =>
  if v1 = 0 then
    some (s, (cI (-101)))
  else
    bd2 (fChron_scanBy s a1 a2 a3 a4) fun s2 v3 =>
    some (s2, v3)
def fLines_arrive_b93 (k2 : ev_M → Int32 → Option ev_M) (s : ev_M) (x1 : Int32) : Option ev_M :=
  k2 s (x1 + cI 1)
def fLines_arrive_h2 : Nat → ev_M → Int32 → Option ev_M
  | 0, _, _ => none
  | n + 1, s, x1 =>
    if x1 < (s.1 449 6) then
      if inb x1 80 = true then
      if (s.1 (459 + (ix (cI 0))) (ix x1)) = (cI 2) then
        if inb x1 80 = true then
        if (s.1 (459 + (ix (cI 5))) (ix x1)) = (s.1 15 1) then
          if inb x1 80 = true then
          ltM (wI s (459 + (ix (cI 0))) (ix x1) (cI 1)) fun s1 =>
          if inb x1 80 = true then
          if inb (s1.1 (459 + (ix (cI 4))) (ix x1)) 20 = true then
          if inb x1 80 = true then
          ltM (wI s1 (459 + (ix (cI 1))) (ix x1) (s1.1 (451 + (ix (cI 1))) (ix (s1.1 (459 + (ix (cI 4))) (ix x1))))) fun s2 =>
          if inb x1 80 = true then
          ltM (wI s2 (459 + (ix (cI 4))) (ix x1) (cI (-1))) fun s3 =>
          if inb x1 80 = true then
          ltM (wI s3 (459 + (ix (cI 5))) (ix x1) (cI (-1))) fun s4 =>
          fLines_arrive_b93 (fLines_arrive_h2 n) s4 x1
          else none
          else none
          else none
          else none
          else none
          else none
        else
          fLines_arrive_b93 (fLines_arrive_h2 n) s x1
        else none
      else
        fLines_arrive_b93 (fLines_arrive_h2 n) s x1
      else none
    else
      some s
def fLines_arrive (s : ev_M) : Option ev_M :=
  fLines_arrive_h2 1048576 s (cI 0)
def fLines_reachBy_b127 (s : ev_M) (y1 : Int32) (y2 : Int32) : Option ev_M :=
  if inb y1 12 = true then
  ltM (wI s 547 (ix y1) y2) fun s1 =>
  some s1
  else none
def fLines_reachBy_b94 (s : ev_M) (x1 : Int32) (x2 : Int32) (x3 : Int32) (x6 : Int32) : Option ev_M :=
  if inb x3 12 = true then
  ltM (wI s 546 (ix x3) x6) fun s2 =>
  if inb x2 12 = true then
  if (s2.1 547 (ix x2)) = (cI (-1)) then
    fLines_reachBy_b127 s2 x3 x1
  else
    if inb x2 12 = true then
    fLines_reachBy_b127 s2 x3 (s2.1 547 (ix x2))
    else none
  else none
  else none
def fLines_reachBy_b57 (s : ev_M) (x1 : Int32) (x2 : Int32) (x3 : Int32) (y0 : Int32) : Option ev_M :=
  if inb x1 20 = true then
  ltI (y0 + (s.1 (451 + (ix (cI 3))) (ix x1))) fun v3 =>
  if inb x3 12 = true then
  if (s.1 546 (ix x3)) = (cI (-1)) then
    fLines_reachBy_b94 s x1 x2 x3 v3
  else
    if inb x3 12 = true then
    if (s.1 546 (ix x3)) ≤ v3 then
      some s
    else
      fLines_reachBy_b94 s x1 x2 x3 v3
    else none
  else none
  else none
def fLines_reachBy (s : ev_M) (a1 : Int32) : Option ev_M :=
  if inb a1 20 = true then
  ltI (s.1 (451 + (ix (cI 0))) (ix a1)) fun v4 =>
  if inb a1 20 = true then
  ltI (s.1 (451 + (ix (cI 1))) (ix a1)) fun v5 =>
  if inb v4 12 = true then
  ltI (s.1 546 (ix v4)) fun v6 =>
  if inb a1 20 = true then
  if (s.1 (451 + (ix (cI 5))) (ix a1)) < v6 then
    bd1 (fLines_firstFrom s a1 v6) fun v7 =>
    fLines_reachBy_b57 s a1 v4 v5 v7
  else
    if inb a1 20 = true then
    fLines_reachBy_b57 s a1 v4 v5 (s.1 (451 + (ix (cI 5))) (ix a1))
    else none
  else none
  else none
  else none
  else none
def fLines_soonestReached_b59 (s : ev_M) (k4 : Int32 → Int32 → Option Int32) (x1 : Int32) (x2 : Int32) : Option Int32 :=
  k4 x1 (x2 + cI 1)
def fLines_soonestReached_b57 (s : ev_M) (k4 : Int32 → Int32 → Option Int32) (x2 : Int32) : Option Int32 :=
  fLines_soonestReached_b59 s k4 x2 x2
def fLines_soonestReached_h4 (s : ev_M) : Nat → Int32 → Int32 → Option Int32
  | 0, _, _ => none
  | n + 1, x1, x2 =>
    if x2 < (s.1 30 2) then
      if inb x2 12 = true then
      if (s.1 546 (ix x2)) = (cI (-1)) then
        fLines_soonestReached_b59 s (fLines_soonestReached_h4 s n) x1 x2
      else
        if inb x2 12 = true then
        if (s.1 548 (ix x2)) = 0 then
          if x1 = (cI (-1)) then
            fLines_soonestReached_b57 s (fLines_soonestReached_h4 s n) x2
          else
            if inb x2 12 = true then
            if inb x1 12 = true then
            if (s.1 546 (ix x2)) < (s.1 546 (ix x1)) then
              fLines_soonestReached_b57 s (fLines_soonestReached_h4 s n) x2
            else
              fLines_soonestReached_b59 s (fLines_soonestReached_h4 s n) x1 x2
            else none
            else none
        else
          fLines_soonestReached_b59 s (fLines_soonestReached_h4 s n) x1 x2
        else none
      else none
    else
      some x1
def fLines_soonestReached (s : ev_M) : Option Int32 :=
  fLines_soonestReached_h4 s 1048576 (cI (-1)) (cI 0)
def fLines_search_b115 (k55 : ev_M → Int32 → Option ev_M) (k87 : ev_M → Int32 → Int32 → Int32 → Option ev_M) (s : ev_M) (x2 : Int32) (x3 : Int32) (x4 : Int32) : Option ev_M :=
  k87 s x2 x3 (x4 + cI 1)
def fLines_search_h87 (k55 : ev_M → Int32 → Option ev_M) : Nat → ev_M → Int32 → Int32 → Int32 → Option ev_M
  | 0, _, _, _, _ => none
  | n + 1, s, x2, x3, x4 =>
    if x4 < (s.1 449 4) then
      if inb x4 20 = true then
      if (s.1 (451 + (ix (cI 0))) (ix x4)) = x3 then
        bd1 (fLines_reachBy s x4) fun s1 =>
        fLines_search_b115 k55 (fLines_search_h87 k55 n) s1 x2 x3 x4
      else
        fLines_search_b115 k55 (fLines_search_h87 k55 n) s x2 x3 x4
      else none
    else
      k55 s (x2 + cI 1)
def fLines_search_h55 : Nat → ev_M → Int32 → Option ev_M
  | 0, _, _ => none
  | n + 1, s, x2 =>
    if x2 < (s.1 30 2) then
      bd1 (fLines_soonestReached s) fun v2 =>
      if v2 = (cI (-1)) then
        some s
      else
        if inb v2 12 = true then
        ltM (wI s 548 (ix v2) ((cI 1) &&& 1)) fun s3 =>
        fLines_search_h87 (fLines_search_h55 n) 1048576 s3 x2 v2 (cI 0)
        else none
    else
      some s
def fLines_search_h2 : Nat → ev_M → Int32 → Int32 → Option ev_M
  | 0, _, _, _ => none
  | n + 1, s, x1, x2 =>
    if x2 < (s.1 30 2) then
      if inb x2 12 = true then
      ltM (wI s 546 (ix x2) (cI (-1))) fun s4 =>
      if inb x2 12 = true then
      ltM (wI s4 547 (ix x2) (cI (-1))) fun s5 =>
      if inb x2 12 = true then
      ltM (wI s5 548 (ix x2) ((cI 0) &&& 1)) fun s6 =>
      (fLines_search_h2 n) s6 x1 (x2 + cI 1)
      else none
      else none
      else none
    else
      if inb x1 12 = true then
      ltM (wI s 546 (ix x1) (s.1 15 1)) fun s7 =>
      fLines_search_h55 1048576 s7 (cI 0)
      else none
def fLines_search (s : ev_M) (a1 : Int32) : Option ev_M :=
  fLines_search_h2 1048576 s a1 (cI 0)
def fLines_carriedBy_b27 (s : ev_M) (k4 : Int32 → Int32 → Int32 → Option Int32) (x1 : Int32) (x2 : Int32) (x3 : Int32) : Option Int32 :=
  k4 x1 x2 (x3 + cI 1)
def fLines_carriedBy_h4 (s : ev_M) : Nat → Int32 → Int32 → Int32 → Option Int32
  | 0, _, _, _ => none
  | n + 1, x1, x2, x3 =>
    if x3 < (s.1 449 6) then
      if inb x3 80 = true then
      if (s.1 (459 + (ix (cI 4))) (ix x3)) = x1 then
        fLines_carriedBy_b27 s (fLines_carriedBy_h4 s n) x1 (x2 + cI 1) x3
      else
        fLines_carriedBy_b27 s (fLines_carriedBy_h4 s n) x1 x2 x3
      else none
    else
      some x2
def fLines_carriedBy (s : ev_M) (a1 : Int32) : Option Int32 :=
  fLines_carriedBy_h4 s 1048576 a1 (cI 0) (cI 0)
def fLines_load_b158 (k29 : ev_M → Int32 → Int32 → Int32 → Option ev_M) (s : ev_M) (x1 : Int32) (x2 : Int32) (x3 : Int32) : Option ev_M :=
  k29 s x1 x2 (x3 + cI 1)
def fLines_load_b77 (k29 : ev_M → Int32 → Int32 → Int32 → Option ev_M) (s : ev_M) (x1 : Int32) (x2 : Int32) (x3 : Int32) (y0 : Int32) : Option ev_M :=
  if y0 = 0 then
    fLines_load_b158 k29 s x1 x2 x3
  else
    if inb x3 80 = true then
    if inb (s.1 (459 + (ix (cI 2))) (ix x3)) 12 = true then
    if (s.1 547 (ix (s.1 (459 + (ix (cI 2))) (ix x3)))) = x1 then
      if inb x3 80 = true then
      ltM (wI s (459 + (ix (cI 0))) (ix x3) (cI 2)) fun s1 =>
      if inb x3 80 = true then
      ltM (wI s1 (459 + (ix (cI 1))) (ix x3) (cI (-1))) fun s2 =>
      if inb x3 80 = true then
      ltM (wI s2 (459 + (ix (cI 4))) (ix x3) x1) fun s3 =>
      if inb x1 20 = true then
      if inb x3 80 = true then
      ltM (wI s3 (459 + (ix (cI 5))) (ix x3) ((s3.1 15 1) + (s3.1 (451 + (ix (cI 3))) (ix x1)))) fun s4 =>
      fLines_load_b158 k29 s4 x1 (x2 + cI (-1)) x3
      else none
      else none
      else none
      else none
      else none
    else
      fLines_load_b158 k29 s x1 x2 x3
    else none
    else none
def fLines_load_b76 (k29 : ev_M → Int32 → Int32 → Int32 → Option ev_M) (s : ev_M) (x1 : Int32) (x2 : Int32) (x3 : Int32) : Option ev_M :=
  fLines_load_b77 k29 s x1 x2 x3 (cI 0)
def fLines_load_h29 : Nat → ev_M → Int32 → Int32 → Int32 → Option ev_M
  | 0, _, _, _, _ => none
  | n + 1, s, x1, x2, x3 =>
    if x3 < (s.1 449 6) then
      if x2 ≤ 0 then
        some s
      else
        if inb x3 80 = true then
        if (s.1 (459 + (ix (cI 0))) (ix x3)) = (cI 1) then
          if inb x3 80 = true then
          if inb x1 20 = true then
          if (s.1 (459 + (ix (cI 1))) (ix x3)) = (s.1 (451 + (ix (cI 0))) (ix x1)) then
            fLines_load_b77 (fLines_load_h29 n) s x1 x2 x3 (cI 1)
          else
            fLines_load_b76 (fLines_load_h29 n) s x1 x2 x3
          else none
          else none
        else
          fLines_load_b76 (fLines_load_h29 n) s x1 x2 x3
        else none
    else
      some s
def fLines_load (s : ev_M) (a1 : Int32) : Option ev_M :=
  if inb a1 20 = true then
  bd1 (fLines_search s (s.1 (451 + (ix (cI 0))) (ix a1))) fun s5 =>
  if inb a1 20 = true then
  bd1 (fLines_carriedBy s5 a1) fun v6 =>
  ltI ((s5.1 (451 + (ix (cI 4))) (ix a1)) - v6) fun v7 =>
  fLines_load_h29 1048576 s5 a1 v7 (cI 0)
  else none
  else none
def fLines_leaveAll_b41 (k2 : ev_M → Int32 → Option ev_M) (s : ev_M) (x1 : Int32) : Option ev_M :=
  k2 s (x1 + cI 1)
def fLines_leaveAll_h2 : Nat → ev_M → Int32 → Option ev_M
  | 0, _, _ => none
  | n + 1, s, x1 =>
    if x1 < (s.1 449 4) then
      if inb x1 20 = true then
      if (s.1 (451 + (ix (cI 5))) (ix x1)) = (s.1 15 1) then
        bd1 (fLines_load s x1) fun s1 =>
        bd1 (fLines_setNext s1 x1) fun s2 =>
        fLines_leaveAll_b41 (fLines_leaveAll_h2 n) s2 x1
      else
        fLines_leaveAll_b41 (fLines_leaveAll_h2 n) s x1
      else none
    else
      some s
def fLines_leaveAll (s : ev_M) : Option ev_M :=
  fLines_leaveAll_h2 1048576 s (cI 0)
def fLines_nextMinute_b67 (s : ev_M) (k34 : Int32 → Int32 → Option Int32) (x1 : Int32) (x2 : Int32) : Option Int32 :=
  k34 x1 (x2 + cI 1)
def fLines_nextMinute_h34 (s : ev_M) : Nat → Int32 → Int32 → Option Int32
  | 0, _, _ => none
  | n + 1, x1, x2 =>
    if x2 < (s.1 449 6) then
      if inb x2 80 = true then
      if (s.1 (459 + (ix (cI 0))) (ix x2)) = (cI 2) then
        if inb x2 80 = true then
        bd1 (fMath_min s x1 (s.1 (459 + (ix (cI 5))) (ix x2))) fun v1 =>
        fLines_nextMinute_b67 s (fLines_nextMinute_h34 s n) v1 x2
        else none
      else
        fLines_nextMinute_b67 s (fLines_nextMinute_h34 s n) x1 x2
      else none
    else
      some x1
def fLines_nextMinute_h5 (s : ev_M) : Nat → Int32 → Int32 → Option Int32
  | 0, _, _ => none
  | n + 1, x1, x2 =>
    if x2 < (s.1 449 4) then
      if inb x2 20 = true then
      bd1 (fMath_min s x1 (s.1 (451 + (ix (cI 5))) (ix x2))) fun v2 =>
      (fLines_nextMinute_h5 s n) v2 (x2 + cI 1)
      else none
    else
      fLines_nextMinute_h34 s 1048576 x1 (cI 0)
def fLines_nextMinute (s : ev_M) : Option Int32 :=
  fLines_nextMinute_h5 s 1048576 (cI 2147483647) (cI 0)
def fItems_isHeldTill (s : ev_M) (a1 : Int32) (a2 : Int32) : Option Int32 :=
  bd1 (fItems_is s a1 (cI 6)) fun v1 =>
  if v1 = 0 then
    some (cI 0)
  else
    if inb a1 300 = true then
    if (s.1 (102 + (ix (cI 14))) (ix a1)) ≤ a2 then
      some (cI 1)
    else
      some (cI 0)
    else none
def fMoney_giveBack_b47 (k2 : ev_M → Int32 → Int32 → Option ev_M) (s : ev_M) (x1 : Int32) (x2 : Int32) : Option ev_M :=
  k2 s x1 (x2 + cI 1)
def fMoney_giveBack_h2 : Nat → ev_M → Int32 → Int32 → Option ev_M
  | 0, _, _, _ => none
  | n + 1, s, x1, x2 =>
    if x2 < (s.1 78 8) then
      if inb x2 60 = true then
      if (s.1 (87 + (ix (cI 0))) (ix x2)) = 0 then
        if inb x2 60 = true then
        if (s.1 (87 + (ix (cI 4))) (ix x2)) ≤ x1 then
          if inb x2 60 = true then
          bd1 (fMoney_settle s x2 (cI 2) (s.1 (87 + (ix (cI 1))) (ix x2))) fun s1 =>
          fMoney_giveBack_b47 (fMoney_giveBack_h2 n) s1 x1 x2
          else none
        else
          fMoney_giveBack_b47 (fMoney_giveBack_h2 n) s x1 x2
        else none
      else
        fMoney_giveBack_b47 (fMoney_giveBack_h2 n) s x1 x2
      else none
    else
      some s
def fMoney_giveBack (s : ev_M) (a1 : Int32) : Option ev_M :=
  fMoney_giveBack_h2 1048576 s a1 (cI 0)
def fLock_unbar_h2 : Nat → ev_M → Int32 → Option ev_M
  | 0, _, _ => none
  | n + 1, s, x1 =>
    if x1 < (s.1 125 3) then
      if inb x1 8 = true then
      ltM (wI s 128 (ix x1) (cI 0)) fun s1 =>
      (fLock_unbar_h2 n) s1 (x1 + cI 1)
      else none
    else
      some s
def fLock_unbar (s : ev_M) : Option ev_M :=
  fLock_unbar_h2 1048576 s (cI 0)
def fPH_beginDay_b50 (k10 : ev_M → Int32 → Int32 → Option ev_M) (s : ev_M) (x1 : Int32) (x2 : Int32) : Option ev_M :=
  k10 s x1 (x2 + cI 1)
def fPH_beginDay_h10 : Nat → ev_M → Int32 → Int32 → Option ev_M
  | 0, _, _, _ => none
  | n + 1, s, x1, x2 =>
    if x2 < (s.1 100 5) then
      bd1 (fItems_isHeldTill s x2 x1) fun v1 =>
      if v1 = 0 then
        fPH_beginDay_b50 (fPH_beginDay_h10 n) s x1 x2
      else
        bd1 (fLock_drop s x2) fun s2 =>
        bd2 (fItems_goBack s2 x2) fun s3 v4 =>
        fPH_beginDay_b50 (fPH_beginDay_h10 n) s3 x1 x2
    else
      bd1 (fMoney_giveBack s x1) fun s5 =>
      bd1 (fLock_unbar s5) fun s6 =>
      some s6
def fPH_beginDay (s : ev_M) : Option ev_M :=
  bd1 (fChron_today s) fun v7 =>
  fPH_beginDay_h10 1048576 s v7 (cI 0)
def fPH_goOn_b124 (k54 : ev_M → Int32 → Int32 → Int32 → Option (ev_M × Int32)) (s : ev_M) (x1 : Int32) (x2 : Int32) (x3 : Int32) : Option (ev_M × Int32) :=
  bd1 (fLines_arrive s) fun s1 =>
  bd1 (fLines_leaveAll s1) fun s2 =>
  k54 s2 x1 x2 (x3 + cI 1)
def fPH_goOn_b144 (s : ev_M) : Option (ev_M × Int32) :=
  some (s, (s.1 15 1))
def fPH_goOn_h54 : Nat → ev_M → Int32 → Int32 → Int32 → Option (ev_M × Int32)
  | 0, _, _, _, _ => none
  | n + 1, s, x1, x2, x3 =>
    if x3 < x1 then
      if (s.1 15 1) < x2 then
        bd1 (fChron_today s) fun v3 =>
        ltI ((v3 + (cI 1)) * (cI 1440)) fun v4 =>
        bd1 (fLines_nextMinute s) fun v5 =>
        bd1 (fMath_min s v4 v5) fun v6 =>
        bd1 (fMath_min s x2 v6) fun v7 =>
        ltM (wI s 15 1 v7) fun s8 =>
        if (s8.1 15 1) = v4 then
          bd1 (fPH_beginDay s8) fun s9 =>
          fPH_goOn_b124 (fPH_goOn_h54 n) s9 x1 x2 x3
        else
          fPH_goOn_b124 (fPH_goOn_h54 n) s8 x1 x2 x3
      else
        fPH_goOn_b144 s
    else
      fPH_goOn_b144 s
def fPH_goOn (s : ev_M) (a1 : Int32) : Option (ev_M × Int32) :=
  bd1 (fPH_outside s a1 (cI 1) (cI 1440)) fun v10 =>
  if v10 = 0 then
    if a1 ≤ ((cI 1000000000) - (s.1 15 1)) then
      bd2 (fLog_admits s) fun s11 v12 =>
      if v12 = 0 then
        some (s11, (cI (-104)))
      else
        ltI ((s11.1 15 1) + a1) fun v13 =>
        fPH_goOn_h54 1048576 s11 a1 v13 (cI 0)
    else
      some (s, (cI (-102)))
  else
    some (s, (cI (-102)))
def fPH_act_1_b677 (s : ev_M) (y1 : Int32) (y2 : Int32) (y3 : Int32) : Option (ev_M × Int32) :=
  bd2 (fChron_setWish s y1 y2 y3) fun s1 v2 =>
  some (s1, v2)
def fPH_act_1 (s : ev_M) : Option (ev_M × Int32) :=
  ltI (s.1 14 (ix (cI 0))) fun v3 =>
  ltI (s.1 14 (ix (cI 1))) fun v4 =>
  ltI (s.1 14 (ix (cI 2))) fun v5 =>
  ltI (s.1 14 (ix (cI 3))) fun v6 =>
  ltI (s.1 14 (ix (cI 4))) fun v7 =>
  ltI (s.1 14 (ix (cI 5))) fun v8 =>
  if (s.1 9 14) = cI 1 then
    bd2 (fBook_readText_1 s) fun s9 v10 =>
    some (s9, v10)
  else
  if (s.1 9 14) = cI 2 then
    bd2 (fBook_tellForwarding s v3 v4 v5 v6) fun s11 v12 =>
    some (s11, v12)
  else
  if (s.1 9 14) = cI 3 then
    bd2 (fBook_tellHold s v3 v4 v5) fun s13 v14 =>
    some (s13, v14)
  else
  if (s.1 9 14) = cI 4 then
    bd2 (fSheet_show_1 s v3) fun s15 v16 =>
    some (s15, v16)
  else
  if (s.1 9 14) = cI 5 then
    bd2 (fItems_tell s v3 v4 v5 v6 v7 v8) fun s17 v18 =>
    some (s17, v18)
  else
  if (s.1 9 14) = cI 6 then
    bd2 (fItems_setAddress s v3 v4) fun s19 v20 =>
    some (s19, v20)
  else
  if (s.1 9 14) = cI 7 then
    bd2 (fItems_takeReading s v3) fun s21 v22 =>
    some (s21, v22)
  else
  if (s.1 9 14) = cI 8 then
    bd2 (fItems_hearClerk s v3 v4 v5) fun s23 v24 =>
    some (s23, v24)
  else
  if (s.1 9 14) = cI 9 then
    bd2 (fItems_postAt s v3 v4) fun s25 v26 =>
    some (s25, v26)
  else
  if (s.1 9 14) = cI 10 then
    bd2 (fRounds_setMachine s v3 v4 v5 v6) fun s27 v28 =>
    some (s27, v28)
  else
  if (s.1 9 14) = cI 11 then
    bd2 (fRounds_make s v3 v4 v5) fun s29 v30 =>
    some (s29, v30)
  else
  if (s.1 9 14) = cI 12 then
    bd2 (fRounds_addStop s v3 v4) fun s31 v32 =>
    some (s31, v32)
  else
  if (s.1 9 14) = cI 13 then
    bd2 (fRounds_arrangeStops s v3) fun s33 v34 =>
    some (s33, v34)
  else
  if (s.1 9 14) = cI 14 then
    bd2 (fRounds_sortItems s v3) fun s35 v36 =>
    some (s35, v36)
  else
  if (s.1 9 14) = cI 15 then
    bd2 (fRounds_sendOut s v3) fun s37 v38 =>
    some (s37, v38)
  else
  if (s.1 9 14) = cI 16 then
    bd2 (fLines_make s v3 v4 v5 v6 v7) fun s39 v40 =>
    some (s39, v40)
  else
  if (s.1 9 14) = cI 17 then
    bd2 (fLines_delay s v3 v4) fun s41 v42 =>
    some (s41, v42)
  else
  if (s.1 9 14) = cI 18 then
    bd2 (fLines_makeBag s v3 v4) fun s43 v44 =>
    some (s43, v44)
  else
  if (s.1 9 14) = cI 19 then
    bd2 (fLines_fillBag s v3 v4) fun s45 v46 =>
    some (s45, v46)
  else
  if (s.1 9 14) = cI 20 then
    bd2 (fLines_shutBag s v3) fun s47 v48 =>
    some (s47, v48)
  else
  if (s.1 9 14) = cI 21 then
    bd2 (fLines_emptyBag s v3) fun s49 v50 =>
    some (s49, v50)
  else
  if (s.1 9 14) = cI 22 then
    bd2 (fItems_handAtDoor s v3 v4 v5 v6) fun s51 v52 =>
    some (s51, v52)
  else
  if (s.1 9 14) = cI 23 then
    bd2 (fItems_missAtDoor s v3) fun s53 v54 =>
    some (s53, v54)
  else
  if (s.1 9 14) = cI 24 then
    bd2 (fItems_refuseItem s v3) fun s55 v56 =>
    some (s55, v56)
  else
  if (s.1 9 14) = cI 25 then
    bd2 (fLock_fill s v3 v4) fun s57 v58 =>
    some (s57, v58)
  else
  if (s.1 9 14) = cI 26 then
    bd2 (fItems_handAtPost s v3 v4 v5 v6) fun s59 v60 =>
    some (s59, v60)
  else
  if (s.1 9 14) = cI 27 then
    bd2 (fLock_tryKey s v3 v4) fun s61 v62 =>
    some (s61, v62)
  else
  if (s.1 9 14) = cI 28 then
    bd2 (fPH_loseItem s v3) fun s63 v64 =>
    some (s63, v64)
  else
  if (s.1 9 14) = cI 29 then
    bd2 (fMoney_openAccount s v3) fun s65 v66 =>
    some (s65, v66)
  else
  if (s.1 9 14) = cI 30 then
    bd2 (fMoney_payIn s v3 v4) fun s67 v68 =>
    some (s67, v68)
  else
  if (s.1 9 14) = cI 31 then
    bd2 (fMoney_readTariff_1 s) fun s69 v70 =>
    some (s69, v70)
  else
  if (s.1 9 14) = cI 32 then
    bd2 (fItems_frankItem s v3) fun s71 v72 =>
    some (s71, v72)
  else
  if (s.1 9 14) = cI 33 then
    bd2 (fMoney_makeOrder s v3 v4 v5) fun s73 v74 =>
    some (s73, v74)
  else
  if (s.1 9 14) = cI 34 then
    bd2 (fMoney_payOrder s v3 v4 v5) fun s75 v76 =>
    some (s75, v76)
  else
  if (s.1 9 14) = cI 35 then
    bd2 (fItems_claimFor s v3 v4) fun s77 v78 =>
    some (s77, v78)
  else
  if (s.1 9 14) = cI 36 then
    bd2 (fLock_make s v3 v4) fun s79 v80 =>
    some (s79, v80)
  else
  if (s.1 9 14) = cI 37 then
    bd2 (fChron_setDevice s v3 v4) fun s81 v82 =>
    some (s81, v82)
  else
  if (s.1 9 14) = cI 38 then
    bd2 (fPH_scanItem s v3 v4 v5 v6) fun s83 v84 =>
    some (s83, v84)
  else
  if (s.1 9 14) = cI 39 then
    bd1 (fMoney_isCustomer s v3) fun v85 =>
    if v85 = 0 then
      some (s, (cI (-101)))
    else
      if v5 = (cI 1) then
        fPH_act_1_b677 s v3 v4 (cI 1)
      else
        fPH_act_1_b677 s v3 v4 (cI 0)
  else
  if (s.1 9 14) = cI 40 then
    bd2 (fPH_goOn s v3) fun s86 v87 =>
    some (s86, v87)
  else
  some (s, (cI (-101)))
def fPH_wish_b17 (s : ev_M) (y1 : Int32) (y2 : Int32) (y3 : Int32) (y4 : Int32) : Option (ev_M × Int32) :=
  bd2 (fLog_stages s y1 y2 y3 y4 (cI 0) (cI 0) (cI 0)) fun s1 v2 =>
  if v2 = 0 then
    some (s1, (cI (-105)))
  else
    bd2 (fPH_act_1 s1) fun s3 v4 =>
    some (s3, v4)
def fPH_wish (s : ev_M) (a1 : Int32) (a2 : Int32) (a3 : Int32) : Option (ev_M × Int32) :=
  if a3 = 0 then
    fPH_wish_b17 s (cI 39) a1 a2 (cI 0)
  else
    fPH_wish_b17 s (cI 39) a1 a2 (cI 1)
def fM_feed_b87 (k34 : ev_M → Int32 → Int32 → Int32 → Int32 → Int32 → Int32 → Option (ev_M × Int32)) (s : ev_M) (x1 : Int32) (x2 : Int32) (x3 : Int32) (x4 : Int32) (x5 : Int32) (x6 : Int32) (y0 : Int32) : Option (ev_M × Int32) :=
  if (cI 4) = 0 then none else
  if inb (s.1 549 2) 4096 = true then
  ltM (wI s 550 (ix (s.1 549 2)) (i2b (i2b (y0 >>> (((cI 24) - ((cI 8) * (irem x6 (cI 4)))) &&& 31))))) fun s1 =>
  ltM (wI s1 549 2 ((s1.1 549 2) + (cI 1))) fun s2 =>
  k34 s2 x1 x2 x3 x4 x5 (x6 + cI 1)
  else none
def fM_feed_h34 : Nat → ev_M → Int32 → Int32 → Int32 → Int32 → Int32 → Int32 → Option (ev_M × Int32)
  | 0, _, _, _, _, _, _, _ => none
  | n + 1, s, x1, x2, x3, x4, x5, x6 =>
    if x6 < (cI 20) then
      if x6 < (cI 4) then
        fM_feed_b87 (fM_feed_h34 n) s x1 x2 x3 x4 x5 x6 x1
      else
        if x6 < (cI 8) then
          fM_feed_b87 (fM_feed_h34 n) s x1 x2 x3 x4 x5 x6 x2
        else
          if x6 < (cI 12) then
            fM_feed_b87 (fM_feed_h34 n) s x1 x2 x3 x4 x5 x6 x3
          else
            if x6 < (cI 16) then
              fM_feed_b87 (fM_feed_h34 n) s x1 x2 x3 x4 x5 x6 x4
            else
              fM_feed_b87 (fM_feed_h34 n) s x1 x2 x3 x4 x5 x6 x5
    else
      some (s, (s.1 549 2))
def fM_feed_b19 (s : ev_M) (x1 : Int32) (x2 : Int32) (x3 : Int32) (x4 : Int32) (x5 : Int32) (y1 : Int32) : Option (ev_M × Int32) :=
  ltM (wI s 549 0 y1) fun s3 =>
  if (s3.1 549 0) ≤ 0 then
    fM_feed_h34 1048576 s3 x1 x2 x3 x4 x5 (cI 0)
  else
    some (s3, (cI 0))
def fM_feed (s : ev_M) (a1 : Int32) (a2 : Int32) (a3 : Int32) (a4 : Int32) (a5 : Int32) : Option (ev_M × Int32) :=
  if ((s.1 549 2) + (cI 20)) ≤ (cI 4096) then
    fM_feed_b19 s a1 a2 a3 a4 a5 (cI 0)
  else
    fM_feed_b19 s a1 a2 a3 a4 a5 (cI 1)
def fM_thrown (s : ev_M) : Option Int32 :=
  some (s.1 549 0)
def fM_end_b37 (s : ev_M) (y1 : Int32) : Option ev_M :=
  ltM (wI s 549 2 y1) fun s1 =>
  some s1
def fM_end_b18 (s : ev_M) (x1 : Int32) (y1 : Int32) : Option ev_M :=
  ltM (wI s 549 0 y1) fun s2 =>
  if (s2.1 549 0) ≤ 0 then
    fM_end_b37 s2 x1
  else
    fM_end_b37 s2 (s2.1 549 2)
def fM_end (s : ev_M) (a1 : Int32) : Option ev_M :=
  bd1 (fM_in s a1 (cI 0) (s.1 549 2)) fun v3 =>
  if v3 = 0 then
    fM_end_b18 s a1 (cI 1)
  else
    fM_end_b18 s a1 (cI 0)
def fLog_sumOf_12_h4 (s : ev_M) : Nat → Int32 → Int32 → Int32 → Option Int32
  | 0, _, _, _ => none
  | n + 1, x1, x2, x3 =>
    if x3 < (x1 + (cI 252)) then
      if x3 < (cI 256) then
        if inb x3 256 = true then
        ltI (x2 ^^^ ((s.1 12 (ix x3)) &&& (cI 255))) fun v1 =>
        ltI (((v1 <<< ((cI 3) &&& 31)) ||| (iushr v1 (cI 29))) * (cI (-2048144777))) fun v2 =>
        (fLog_sumOf_12_h4 s n) x1 v2 (x3 + cI 1)
        else none
      else
        some x2
    else
      some x2
def fLog_sumOf_12 (s : ev_M) (a1 : Int32) : Option Int32 :=
  fLog_sumOf_12_h4 s 1048576 a1 (cI 0) a1
def fArr_fillL_12_h5 : Nat → ev_M → Int32 → Int32 → Int32 → Option ev_M
  | 0, _, _, _, _ => none
  | n + 1, s, x1, x2, x3 =>
    if x2 < x3 then
      if inb x2 256 = true then
      ltM (wI s 12 (ix x2) (i2b x1)) fun s1 =>
      (fArr_fillL_12_h5 n) s1 x1 (x2 + cI 1) x3
      else none
    else
      some s
def fArr_fillL_12 (s : ev_M) (a1 : Int32) : Option ev_M :=
  fArr_fillL_12_h5 1048576 s a1 (cI 0) (cI 256)
def fLog_makeBlock_h122 : Nat → ev_M → Int32 → Int32 → Option ev_M
  | 0, _, _, _ => none
  | n + 1, s, x6, x7 =>
    if x7 < (cI 4) then
      if inb ((cI 252) + x7) 256 = true then
      ltM (wI s 12 (ix ((cI 252) + x7)) (i2b (i2b (x6 >>> (((cI 24) - ((cI 8) * x7)) &&& 31))))) fun s1 =>
      (fLog_makeBlock_h122 n) s1 x6 (x7 + cI 1)
      else none
    else
      some s
def fLog_makeBlock_h77 : Nat → ev_M → Int32 → Int32 → Int32 → Option ev_M
  | 0, _, _, _, _ => none
  | n + 1, s, x4, x5, x6 =>
    if x6 < x5 then
      if inb (x4 + x6) 37200 = true then
      if inb ((cI 4) + x6) 256 = true then
      ltM (wI s 12 (ix ((cI 4) + x6)) (i2b (s.1 13 (ix (x4 + x6))))) fun s2 =>
      (fLog_makeBlock_h77 n) s2 x4 x5 (x6 + cI 1)
      else none
      else none
    else
      bd1 (fLog_sumOf_12 s (cI 0)) fun v3 =>
      fLog_makeBlock_h122 1048576 s v3 (cI 0)
def fLog_makeBlock_b63 (s : ev_M) (x4 : Int32) (x5 : Int32) (y1 : Int32) (y2 : Int32) : Option ev_M :=
  if inb y1 256 = true then
  ltM (wI s 12 (ix y1) (i2b (i2b y2))) fun s4 =>
  ltM (wI s4 12 (ix (cI 3)) (i2b (i2b x5))) fun s5 =>
  fLog_makeBlock_h77 1048576 s5 x4 x5 (cI 0)
  else none
def fLog_makeBlock (s : ev_M) (a1 : Int32) (a2 : Int32) (a3 : Int32) : Option ev_M :=
  ltI (a1 * (cI 248)) fun v6 =>
  bd1 (fMath_min s (cI 248) ((s.1 9 6) - v6)) fun v7 =>
  bd1 (fArr_fillL_12 s (cI 0)) fun s8 =>
  ltM (wI s8 12 (ix (cI 0)) (i2b (i2b (a2 >>> ((cI 8) &&& 31))))) fun s9 =>
  ltM (wI s9 12 (ix (cI 1)) (i2b (i2b a2))) fun s10 =>
  if a3 = 0 then
    fLog_makeBlock_b63 s10 v6 v7 (cI 2) (cI 0)
  else
    fLog_makeBlock_b63 s10 v6 v7 (cI 2) (cI 1)
def fLog_writes_b75 (s : ev_M) (x2 : Int32) (y1 : Int32) (y2 : Int32) : Option (ev_M × Int32) :=
  if inb y1 150 = true then
  ltM (wI s 11 (ix y1) (y2 &&& 1)) fun s1 =>
  if (s1.1 9 10) ≤ 0 then
    if bz x2 = true then some (s1, x2) else none
  else
    ltM (wI s1 9 10 ((s1.1 9 10) - (cI 1))) fun s2 =>
    if bz x2 = true then some (s2, x2) else none
  else none
def fLog_writes_b56 (s : ev_M) (x1 : Int32) (x2 : Int32) (y1 : Int32) (y3 : Int32) (y4 : Int32) : Option (ev_M × Int32) :=
  bd1 (fACP s 256 38400 12 10 y1 y3 y4) fun s3 =>
  if x2 = 0 then
    fLog_writes_b75 s3 x2 (x1 - (cI 1)) (cI 1)
  else
    fLog_writes_b75 s3 x2 (x1 - (cI 1)) (cI 0)
def fLog_writes_b25 (s : ev_M) (x1 : Int32) (y0 : Int32) : Option (ev_M × Int32) :=
  if y0 = 0 then
    fLog_writes_b56 s x1 y0 (cI 0) ((x1 - (cI 1)) * (cI 256)) (s.1 9 11)
  else
    fLog_writes_b56 s x1 y0 (cI 0) ((x1 - (cI 1)) * (cI 256)) (cI 256)
def fLog_writes (s : ev_M) (a1 : Int32) : Option (ev_M × Int32) :=
  bd1 (fPH_outside s a1 (cI 1) (cI 150)) fun v4 =>
  if v4 = 0 then
    if (s.1 9 10) = 0 then
      fLog_writes_b25 s a1 (cI 0)
    else
      fLog_writes_b25 s a1 (cI 1)
  else
    some (s, (cI 0))
def fLog_writeAll_b37 (k10 : ev_M → Int32 → Int32 → Option (ev_M × Int32)) (s : ev_M) (x1 : Int32) (x2 : Int32) (y1 : Int32) (y2 : Int32) (y3 : Int32) : Option (ev_M × Int32) :=
  bd1 (fLog_makeBlock s y1 y2 y3) fun s1 =>
  bd2 (fLog_writes s1 (((s1.1 9 4) + x2) + (cI 1))) fun s2 v3 =>
  if v3 = 0 then
    ltM (wI s2 9 9 (cI 1)) fun s4 =>
    some (s4, (cI (-106)))
  else
    k10 s2 x1 (x2 + cI 1)
def fLog_writeAll_h10 : Nat → ev_M → Int32 → Int32 → Option (ev_M × Int32)
  | 0, _, _, _ => none
  | n + 1, s, x1, x2 =>
    if x2 < x1 then
      if x2 = (x1 - (cI 1)) then
        fLog_writeAll_b37 (fLog_writeAll_h10 n) s x1 x2 x2 (((s.1 9 4) + x2) + (cI 1)) (cI 1)
      else
        fLog_writeAll_b37 (fLog_writeAll_h10 n) s x1 x2 x2 (((s.1 9 4) + x2) + (cI 1)) (cI 0)
    else
      ltM (wI s 9 4 ((s.1 9 4) + x1)) fun s5 =>
      ltM (wI s5 9 6 (cI 0)) fun s6 =>
      ltM (wI s6 9 7 (cI 0)) fun s7 =>
      some (s7, x1)
def fLog_writeAll (s : ev_M) : Option (ev_M × Int32) :=
  bd1 (fLog_blocksFor s (s.1 9 6)) fun v8 =>
  fLog_writeAll_h10 1048576 s v8 (cI 0)
def fPH_sync (s : ev_M) : Option (ev_M × Int32) :=
  if (s.1 9 9) = 0 then
    bd2 (fLog_writeAll s) fun s1 v2 =>
    some (s1, v2)
  else
    some (s, (cI (-105)))
def fM_sum_556_h4 (s : ev_M) : Nat → Int32 → Int32 → Int32 → Option Int32
  | 0, _, _, _ => none
  | n + 1, x1, x2, x3 =>
    if x3 < (x1 + (cI 252)) then
      if inb x3 256 = true then
      ltI (x2 ^^^ ((s.1 556 (ix x3)) &&& (cI 255))) fun v1 =>
      ltI (((v1 <<< ((cI 3) &&& 31)) ||| (iushr v1 (cI 29))) * (cI (-2048144777))) fun v2 =>
      (fM_sum_556_h4 s n) x1 v2 (x3 + cI 1)
      else none
    else
      some x2
def fM_sum_556 (s : ev_M) (a1 : Int32) : Option Int32 :=
  fM_sum_556_h4 s 1048576 a1 (cI 0) a1
def fM_make_b65 (k21 : ev_M → Int32 → Int32 → Int32 → Int32 → Int32 → Option ev_M) (s : ev_M) (x1 : Int32) (x2 : Int32) (x3 : Int32) (x4 : Int32) (x5 : Int32) (y1 : Int32) (y2 : Int32) : Option ev_M :=
  if inb y1 256 = true then
  ltM (wI s 556 (ix y1) (i2b y2)) fun s1 =>
  k21 s1 x1 x2 x3 x4 (x5 + cI 1)
  else none
def fM_make_b64 (k21 : ev_M → Int32 → Int32 → Int32 → Int32 → Int32 → Option ev_M) (s : ev_M) (x1 : Int32) (x2 : Int32) (x3 : Int32) (x4 : Int32) (x5 : Int32) (y1 : Int32) : Option ev_M :=
  fM_make_b65 k21 s x1 x2 x3 x4 x5 y1 (cI 0)
def fM_make_h129 : Nat → ev_M → Int32 → Int32 → Option ev_M
  | 0, _, _, _ => none
  | n + 1, s, x5, x6 =>
    if x6 < (cI 4) then
      if inb ((cI 252) + x6) 256 = true then
      ltM (wI s 556 (ix ((cI 252) + x6)) (i2b (i2b (x5 >>> (((cI 24) - ((cI 8) * x6)) &&& 31))))) fun s2 =>
      (fM_make_h129 n) s2 x5 (x6 + cI 1)
      else none
    else
      some s
def fM_make_b105 (s : ev_M) (x4 : Int32) (y1 : Int32) (y2 : Int32) : Option ev_M :=
  if inb y1 256 = true then
  ltM (wI s 556 (ix y1) (i2b (i2b y2))) fun s3 =>
  ltM (wI s3 556 (ix (cI 3)) (i2b (i2b x4))) fun s4 =>
  bd1 (fM_sum_556 s4 (cI 0)) fun v5 =>
  fM_make_h129 1048576 s4 v5 (cI 0)
  else none
def fM_make_h21 : Nat → ev_M → Int32 → Int32 → Int32 → Int32 → Int32 → Option ev_M
  | 0, _, _, _, _, _, _ => none
  | n + 1, s, x1, x2, x3, x4, x5 =>
    if x5 < (cI 252) then
      if x5 < (cI 4) then
        fM_make_b64 (fM_make_h21 n) s x1 x2 x3 x4 x5 x5
      else
        if x5 < (x4 + (cI 4)) then
          if inb ((x2 + x5) - (cI 4)) 37200 = true then
          fM_make_b65 (fM_make_h21 n) s x1 x2 x3 x4 x5 x5 (s.1 552 (ix ((x2 + x5) - (cI 4))))
          else none
        else
          fM_make_b64 (fM_make_h21 n) s x1 x2 x3 x4 x5 x5
    else
      ltM (wI s 556 (ix (cI 0)) (i2b (i2b (x1 >>> ((cI 8) &&& 31))))) fun s6 =>
      ltM (wI s6 556 (ix (cI 1)) (i2b (i2b x1))) fun s7 =>
      if x3 = 0 then
        fM_make_b105 s7 x4 (cI 2) (cI 0)
      else
        fM_make_b105 s7 x4 (cI 2) (cI 1)
def fM_make_b16 (s : ev_M) (x1 : Int32) (x2 : Int32) (x3 : Int32) (y0 : Int32) : Option ev_M :=
  fM_make_h21 1048576 s x1 x2 x3 y0 (cI 0)
def fM_make (s : ev_M) (a1 : Int32) (a2 : Int32) (a3 : Int32) : Option ev_M :=
  if a3 = 0 then
    fM_make_b16 s a1 a2 a3 (cI 248)
  else
    fM_make_b16 s a1 a2 a3 ((s.1 549 9) - a2)
def fM_sync_b174 (k32 : ev_M → Int32 → Int32 → Option (ev_M × Int32)) (s : ev_M) (x1 : Int32) (x2 : Int32) (y1 : Int32) : Option (ev_M × Int32) :=
  ltM (wI s 549 6 y1) fun s1 =>
  k32 s1 x1 (x2 + cI 1)
def fM_sync_b140 (k32 : ev_M → Int32 → Int32 → Option (ev_M × Int32)) (s : ev_M) (x1 : Int32) (x2 : Int32) (y1 : Int32) (y2 : Int32) : Option (ev_M × Int32) :=
  if inb y1 151 = true then
  ltM (wI s 555 (ix y1) (y2 &&& 1)) fun s2 =>
  if (s2.1 549 6) = 0 then
    ltM (wI s2 549 5 (cI 1)) fun s3 =>
    some (s3, (cI (-106)))
  else
    if (s2.1 549 6) ≤ 0 then
      fM_sync_b174 k32 s2 x1 x2 (cI (-1))
    else
      fM_sync_b174 k32 s2 x1 x2 ((s2.1 549 6) - (cI 1))
  else none
def fM_sync_h90 (k32 : ev_M → Int32 → Int32 → Option (ev_M × Int32)) : Nat → ev_M → Int32 → Int32 → Int32 → Int32 → Int32 → Option (ev_M × Int32)
  | 0, _, _, _, _, _, _ => none
  | n + 1, s, x1, x2, x3, x4, x5 =>
    if x5 < x4 then
      if inb x5 256 = true then
      if inb (((cI 256) * x3) + x5) 38656 = true then
      ltM (wI s 551 (ix (((cI 256) * x3) + x5)) (i2b (s.1 556 (ix x5)))) fun s4 =>
      (fM_sync_h90 k32 n) s4 x1 x2 x3 x4 (x5 + cI 1)
      else none
      else none
    else
      if (s.1 549 6) = 0 then
        fM_sync_b140 k32 s x1 x2 x3 (cI 1)
      else
        fM_sync_b140 k32 s x1 x2 x3 (cI 0)
def fM_sync_b85 (k32 : ev_M → Int32 → Int32 → Option (ev_M × Int32)) (s : ev_M) (x1 : Int32) (x2 : Int32) (x3 : Int32) (y0 : Int32) : Option (ev_M × Int32) :=
  fM_sync_h90 k32 1048576 s x1 x2 x3 y0 (cI 0)
def fM_sync_b65 (k32 : ev_M → Int32 → Int32 → Option (ev_M × Int32)) (s : ev_M) (x1 : Int32) (x2 : Int32) (x3 : Int32) (y1 : Int32) (y2 : Int32) (y3 : Int32) : Option (ev_M × Int32) :=
  bd1 (fM_make s y1 y2 y3) fun s5 =>
  if (s5.1 549 6) = 0 then
    fM_sync_b85 k32 s5 x1 x2 x3 (s5.1 549 7)
  else
    fM_sync_b85 k32 s5 x1 x2 x3 (cI 256)
def fM_sync_h32 : Nat → ev_M → Int32 → Int32 → Option (ev_M × Int32)
  | 0, _, _, _ => none
  | n + 1, s, x1, x2 =>
    if x2 < x1 then
      ltI (((s.1 549 4) + (cI 1)) + x2) fun v6 =>
      if x2 = (x1 - (cI 1)) then
        fM_sync_b65 (fM_sync_h32 n) s x1 x2 v6 v6 ((cI 248) * x2) (cI 1)
      else
        fM_sync_b65 (fM_sync_h32 n) s x1 x2 v6 v6 ((cI 248) * x2) (cI 0)
    else
      ltM (wI s 549 4 ((s.1 549 4) + x1)) fun s7 =>
      ltM (wI s7 549 9 (cI 0)) fun s8 =>
      ltM (wI s8 549 10 (cI 0)) fun s9 =>
      some (s9, x1)
def fM_sync (s : ev_M) : Option (ev_M × Int32) :=
  ltM (wI s 549 0 (cI 0)) fun s10 =>
  if (s10.1 549 5) = 0 then
    if (cI 248) = 0 then none else
    ltI ((((s10.1 549 9) + (cI 248)) - (cI 1)) / (cI 248)) fun v11 =>
    fM_sync_h32 1048576 s10 v11 (cI 0)
  else
    some (s10, (cI (-105)))
def fLog_setCut (s : ev_M) (a1 : Int32) (a2 : Int32) : Option (ev_M × Int32) :=
  bd1 (fPH_outside s a1 (cI (-1)) (cI 2000)) fun v1 =>
  if v1 = 0 then
    bd1 (fPH_outside s a2 (cI 0) (cI 255)) fun v2 =>
    if v2 = 0 then
      ltM (wI s 9 10 a1) fun s3 =>
      ltM (wI s3 9 11 a2) fun s4 =>
      some (s4, (cI 1))
    else
      some (s, (cI (-102)))
  else
    some (s, (cI (-102)))
def fPH_cut (s : ev_M) (a1 : Int32) (a2 : Int32) : Option (ev_M × Int32) :=
  if (s.1 9 9) = 0 then
    bd2 (fLog_setCut s a1 a2) fun s1 v2 =>
    some (s1, v2)
  else
    some (s, (cI (-105)))
def fM_cut (s : ev_M) (a1 : Int32) (a2 : Int32) : Option (ev_M × Int32) :=
  ltM (wI s 549 0 (cI 0)) fun s1 =>
  if (s1.1 549 5) = 0 then
    bd1 (fM_in s1 a1 (cI (-1)) (cI 2000)) fun v2 =>
    if v2 = 0 then
      some (s1, (cI (-102)))
    else
      bd1 (fM_in s1 a2 (cI 0) (cI 255)) fun v3 =>
      if v3 = 0 then
        some (s1, (cI (-102)))
      else
        ltM (wI s1 549 6 a1) fun s4 =>
        ltM (wI s4 549 7 a2) fun s5 =>
        some (s5, (cI 1))
  else
    some (s1, (cI (-105)))
def fLog_forgetGathered (s : ev_M) : Option ev_M :=
  ltM (wI s 9 6 (cI 0)) fun s1 =>
  ltM (wI s1 9 7 (cI 0)) fun s2 =>
  ltM (wI s2 9 8 (cI 0)) fun s3 =>
  some s3
def fTape_fill_4_13_h8 : Nat → ev_M → Int32 → Int32 → Int32 → Option ev_M
  | 0, _, _, _, _ => none
  | n + 1, s, x2, x3, x4 =>
    if x4 < (x2 + x3) then
      if x4 < (cI 37200) then
        if (s.1 4 1) < (cI 4096) then
          ltM (wI s 4 1 ((s.1 4 1) + (cI 1))) fun s1 =>
          if inb x4 37200 = true then
          if inb (s.1 4 1) 4096 = true then
          ltM (wI s1 5 (ix (s.1 4 1)) (i2b (s1.1 13 (ix x4)))) fun s2 =>
          (fTape_fill_4_13_h8 n) s2 x2 x3 (x4 + cI 1)
          else none
          else none
        else
          some s
      else
        some s
    else
      some s
def fTape_fill_4_13 (s : ev_M) (a2 : Int32) (a3 : Int32) : Option ev_M :=
  ltM (wI s 4 1 (cI 0)) fun s3 =>
  fTape_fill_4_13_h8 1048576 s3 a2 a3 a2
def fLog_wordAt_h4 (s : ev_M) : Nat → Int32 → Int32 → Int32 → Option Int32
  | 0, _, _, _ => none
  | n + 1, x1, x2, x3 =>
    if x3 < (x1 + (cI 4)) then
      if x3 < (cI 37200) then
        if inb x3 37200 = true then
        ltI ((x2 <<< ((cI 8) &&& 31)) ||| ((s.1 13 (ix x3)) &&& (cI 255))) fun v1 =>
        (fLog_wordAt_h4 s n) x1 v1 (x3 + cI 1)
        else none
      else
        some x2
    else
      some x2
def fLog_wordAt (s : ev_M) (a1 : Int32) : Option Int32 :=
  fLog_wordAt_h4 s 1048576 a1 (cI 0) a1
def fLog_readsRecord_4_b223 (s : ev_M) (x2 : Int32) : Option (ev_M × Int32) :=
  ltM (wI s 9 8 x2) fun s1 =>
  some (s1, (cI 1))
def fLog_readsRecord_4_b138 (s : ev_M) (x2 : Int32) : Option (ev_M × Int32) :=
  bd1 (fLog_readsTape s (s.1 9 14)) fun v2 =>
  if v2 = 0 then
    fLog_readsRecord_4_b223 s x2
  else
    if (x2 + (cI 2)) ≤ (s.1 9 6) then
      if inb x2 37200 = true then
      if inb (x2 + (cI 1)) 37200 = true then
      ltI ((((s.1 13 (ix x2)) &&& (cI 255)) <<< ((cI 8) &&& 31)) ||| ((s.1 13 (ix (x2 + (cI 1)))) &&& (cI 255))) fun v3 =>
      if v3 ≤ (cI 4096) then
        if ((x2 + cI 2) + v3) ≤ (s.1 9 6) then
          bd1 (fTape_fill_4_13 s (x2 + cI 2) v3) fun s4 =>
          ltI ((x2 + cI 2) + v3) fun v5 =>
          fLog_readsRecord_4_b223 s4 v5
        else
          some (s, (cI 0))
      else
        some (s, (cI 0))
      else none
      else none
    else
      some (s, (cI 0))
def fLog_readsRecord_4_h75 : Nat → ev_M → Int32 → Int32 → Option (ev_M × Int32)
  | 0, _, _, _ => none
  | n + 1, s, x2, x3 =>
    if inb (s.1 9 14) 41 = true then
    if x3 < (s.1 1003 (ix (s.1 9 14))) then
      bd1 (fLog_wordAt s (((s.1 9 8) + (cI 1)) + ((cI 4) * x3))) fun v6 =>
      if inb x3 6 = true then
      ltM (wI s 14 (ix x3) v6) fun s7 =>
      (fLog_readsRecord_4_h75 n) s7 x2 (x3 + cI 1)
      else none
    else
      if (s.1 9 14) = (cI 39) then
        bd1 (fPH_outside s (s.1 14 (ix (cI 2))) (cI 0) (cI 1)) fun v8 =>
        if v8 = 0 then
          fLog_readsRecord_4_b138 s x2
        else
          some (s, (cI 0))
      else
        fLog_readsRecord_4_b138 s x2
    else none
def fLog_readsRecord_4 (s : ev_M) : Option (ev_M × Int32) :=
  if (s.1 9 8) < (s.1 9 6) then
    if inb (s.1 9 8) 37200 = true then
    ltM (wI s 9 14 ((s.1 13 (ix (s.1 9 8))) &&& (cI 255))) fun s9 =>
    bd1 (fPH_outside s9 (s9.1 9 14) (cI 1) (cI 40)) fun v10 =>
    if v10 = 0 then
      if inb (s9.1 9 14) 41 = true then
      ltI (((s9.1 9 8) + (cI 1)) + ((cI 4) * (s9.1 1003 (ix (s9.1 9 14))))) fun v11 =>
      if v11 ≤ (s9.1 9 6) then
        fLog_readsRecord_4_h75 1048576 s9 v11 (cI 0)
      else
        some (s9, (cI 0))
      else none
    else
      some (s9, (cI 0))
    else none
  else
    some (s, (cI 0))
def fTape_byteAt_4 (s : ev_M) (a1 : Int32) : Option Int32 :=
  if a1 < 0 then
    some (cI (-1))
  else
    if a1 < (s.1 4 1) then
      if inb a1 4096 = true then
      some ((s.1 5 (ix a1)) &&& (cI 255))
      else none
    else
      some (cI (-1))
def fTape_readsNumber_4_b69 (s : ev_M) (x1 : Int32) (x2 : Int32) : Option (ev_M × Int32) :=
  if x2 = 0 then
    some (s, (cI 0))
  else
    if (s.1 4 4) < (cI 4) then
      ltM (wI s 4 4 ((s.1 4 4) + (cI 1))) fun s1 =>
      if inb (s.1 4 4) 4 = true then
      ltM (wI s1 6 (ix (s.1 4 4)) x1) fun s2 =>
      some (s2, (cI 1))
      else none
    else
      some (s, (cI 0))
def fTape_readsNumber_4_h4 : Nat → ev_M → Int32 → Int32 → Option (ev_M × Int32)
  | 0, _, _, _ => none
  | n + 1, s, x1, x2 =>
    if x2 < (cI 6) then
      bd1 (fTape_byteAt_4 s (s.1 4 2)) fun v3 =>
      if v3 < (cI 48) then
        fTape_readsNumber_4_b69 s x1 x2
      else
        bd1 (fTape_byteAt_4 s (s.1 4 2)) fun v4 =>
        if v4 ≤ (cI 57) then
          bd1 (fTape_byteAt_4 s (s.1 4 2)) fun v5 =>
          ltI (((x1 * (cI 10)) + v5) - (cI 48)) fun v6 =>
          ltM (wI s 4 2 ((s.1 4 2) + (cI 1))) fun s7 =>
          (fTape_readsNumber_4_h4 n) s7 v6 (x2 + cI 1)
        else
          fTape_readsNumber_4_b69 s x1 x2
    else
      fTape_readsNumber_4_b69 s x1 x2
def fTape_readsNumber_4 (s : ev_M) : Option (ev_M × Int32) :=
  fTape_readsNumber_4_h4 1048576 s (cI 0) (cI 0)
def fTape_readsName_4_b83 (s : ev_M) (x1 : Int32) : Option (ev_M × Int32) :=
  if x1 ≤ 0 then
    some (s, (cI 0))
  else
    some (s, (cI 1))
def fTape_readsName_4_h7 : Nat → ev_M → Int32 → Option (ev_M × Int32)
  | 0, _, _ => none
  | n + 1, s, x1 =>
    if x1 < (cI 10) then
      bd1 (fTape_byteAt_4 s (s.1 4 2)) fun v1 =>
      if v1 < (cI 65) then
        fTape_readsName_4_b83 s x1
      else
        bd1 (fTape_byteAt_4 s (s.1 4 2)) fun v2 =>
        if v2 ≤ (cI 90) then
          bd1 (fTape_byteAt_4 s (s.1 4 2)) fun v3 =>
          ltM (wL s 4 5 (((((s.2.1 4 5) * (cL 27)) + (Int32.toInt64 v3)) - (cL 65)) + (cL 1))) fun s4 =>
          ltM (wI s4 4 2 ((s4.1 4 2) + (cI 1))) fun s5 =>
          (fTape_readsName_4_h7 n) s5 (x1 + cI 1)
        else
          fTape_readsName_4_b83 s x1
    else
      fTape_readsName_4_b83 s x1
def fTape_readsName_4 (s : ev_M) : Option (ev_M × Int32) :=
  ltM (wL s 4 5 (cL 0)) fun s6 =>
  fTape_readsName_4_h7 1048576 s6 (cI 0)
def fTape_reads_4 (s : ev_M) (a1 : Int32) : Option (ev_M × Int32) :=
  if a1 = (cI 35) then
    bd2 (fTape_readsNumber_4 s) fun s1 v2 =>
    if bz v2 = true then some (s1, v2) else none
  else
    if a1 = (cI 64) then
      bd2 (fTape_readsName_4 s) fun s3 v4 =>
      if bz v4 = true then some (s3, v4) else none
    else
      bd1 (fTape_byteAt_4 s (s.1 4 2)) fun v5 =>
      if v5 = a1 then
        ltM (wI s 4 2 ((s.1 4 2) + (cI 1))) fun s6 =>
        some (s6, (cI 1))
      else
        some (s, (cI 0))
def fTape_readsEntry_4_1010_h56 : Nat → ev_M → Int32 → Int32 → Option (ev_M × Int32)
  | 0, _, _, _ => none
  | n + 1, s, x2, x3 =>
    bd1 (fSlen 1010) fun v1 =>
    if x3 < v1 then
      bd1 (fSat 1010 x3) fun v2 =>
      bd2 (fTape_reads_4 s v2) fun s3 v4 =>
      if v4 = 0 then
        some (s3, (cI (-1)))
      else
        if v2 = (cI 59) then
          some (s3, x2)
        else
          (fTape_readsEntry_4_1010_h56 n) s3 x2 (x3 + cI 1)
    else
      some (s, (cI (-1)))
def fTape_readsEntry_4_1010_b36 (s : ev_M) (x2 : Int32) (y0 : Int32) : Option (ev_M × Int32) :=
  if y0 < 0 then
    some (s, (cI (-1)))
  else
    ltM (wI s 4 2 ((s.1 4 2) + (cI 1))) fun s5 =>
    fTape_readsEntry_4_1010_h56 1048576 s5 x2 (y0 + cI 1)
def fTape_readsEntry_4_1010_b35 (s : ev_M) (x2 : Int32) : Option (ev_M × Int32) :=
  fTape_readsEntry_4_1010_b36 s x2 (cI (-1))
def fTape_readsEntry_4_1010 (s : ev_M) : Option (ev_M × Int32) :=
  ltM (wI s 4 4 (cI 0)) fun s6 =>
  bd1 (fTape_byteAt_4 s6 (s6.1 4 2)) fun v7 =>
  if v7 < (cI 65) then
    fTape_readsEntry_4_1010_b35 s6 v7
  else
    if v7 ≤ (cI 90) then
      bd1 (fSix 1010 (i2c v7)) fun v8 =>
      fTape_readsEntry_4_1010_b36 s6 v7 v8
    else
      fTape_readsEntry_4_1010_b35 s6 v7
def fBook_addsStreet_4 (s : ev_M) (a1 : Int32) : Option (ev_M × Int32) :=
  ltI (s.1 6 (ix (cI 1))) fun v1 =>
  ltI (s.1 6 (ix (cI 2))) fun v2 =>
  ltI (s.1 6 (ix (cI 3))) fun v3 =>
  bd1 (fBook_streetOf s a1 (s.2.1 4 5)) fun v4 =>
  if v4 = (cI (-1)) then
    if (s.1 30 4) < (cI 30) then
      bd1 (fPH_outside s v1 (cI 0) (cI 999)) fun v5 =>
      if v5 = 0 then
        bd1 (fPH_outside s v2 (cI 0) (cI 999)) fun v6 =>
        if v6 = 0 then
          bd1 (fPH_outside s v3 (cI 0) (cI 3)) fun v7 =>
          if v7 = 0 then
            if inb (s.1 30 4) 30 = true then
            ltM (wI s (33 + (ix (cI 3))) (ix (s.1 30 4)) a1) fun s8 =>
            if inb (s8.1 30 4) 30 = true then
            ltM (wI s8 (33 + (ix (cI 0))) (ix (s8.1 30 4)) v1) fun s9 =>
            if inb (s9.1 30 4) 30 = true then
            ltM (wI s9 (33 + (ix (cI 1))) (ix (s9.1 30 4)) v2) fun s10 =>
            if inb (s10.1 30 4) 30 = true then
            ltM (wI s10 (33 + (ix (cI 2))) (ix (s10.1 30 4)) v3) fun s11 =>
            ltM (wI s11 30 4 ((s11.1 30 4) + (cI 1))) fun s12 =>
            if inb (s11.1 30 4) 30 = true then
            ltM (wL s12 37 (ix (s11.1 30 4)) (s12.2.1 4 5)) fun s13 =>
            some (s13, (cI 1))
            else none
            else none
            else none
            else none
            else none
          else
            some (s, (cI 0))
        else
          some (s, (cI 0))
      else
        some (s, (cI 0))
    else
      some (s, (cI 0))
  else
    some (s, (cI 0))
def fBook_addsRange_4_b109 (k71 : ev_M → Int32 → Int32 → Int32 → Int32 → Int32 → Option (ev_M × Int32)) (s : ev_M) (x1 : Int32) (x3 : Int32) (x4 : Int32) (x5 : Int32) (x6 : Int32) : Option (ev_M × Int32) :=
  k71 s x1 x3 x4 x5 (x6 + cI 1)
def fBook_addsRange_4_h71 : Nat → ev_M → Int32 → Int32 → Int32 → Int32 → Int32 → Option (ev_M × Int32)
  | 0, _, _, _, _, _, _ => none
  | n + 1, s, x1, x3, x4, x5, x6 =>
    if x6 < (s.1 30 7) then
      if inb x6 60 = true then
      if (s.1 (39 + (ix (cI 0))) (ix x6)) = x1 then
        bd1 (fBook_sharesHouse s x6 x3 x4 x5) fun v1 =>
        if v1 = 0 then
          fBook_addsRange_4_b109 (fBook_addsRange_4_h71 n) s x1 x3 x4 x5 x6
        else
          some (s, (cI 0))
      else
        fBook_addsRange_4_b109 (fBook_addsRange_4_h71 n) s x1 x3 x4 x5 x6
      else none
    else
      if inb (s.1 30 7) 60 = true then
      ltM (wI s (39 + (ix (cI 0))) (ix (s.1 30 7)) x1) fun s2 =>
      if inb (s2.1 30 7) 60 = true then
      ltM (wI s2 (39 + (ix (cI 1))) (ix (s2.1 30 7)) x3) fun s3 =>
      if inb (s3.1 30 7) 60 = true then
      ltM (wI s3 (39 + (ix (cI 2))) (ix (s3.1 30 7)) x4) fun s4 =>
      ltM (wI s4 30 7 ((s4.1 30 7) + (cI 1))) fun s5 =>
      if inb (s4.1 30 7) 60 = true then
      ltM (wI s5 (39 + (ix (cI 3))) (ix (s4.1 30 7)) x5) fun s6 =>
      some (s6, (cI 1))
      else none
      else none
      else none
      else none
def fBook_addsRange_4 (s : ev_M) (a1 : Int32) : Option (ev_M × Int32) :=
  ltI (s.1 6 (ix (cI 1))) fun v7 =>
  ltI (s.1 6 (ix (cI 2))) fun v8 =>
  ltI (s.1 6 (ix (cI 3))) fun v9 =>
  bd1 (fPH_outside s v7 (cI 0) (cI 2)) fun v10 =>
  if v10 = 0 then
    bd1 (fPH_outside s v8 (cI 1) (cI 999)) fun v11 =>
    if v11 = 0 then
      bd1 (fPH_outside s v9 v8 (cI 999)) fun v12 =>
      if v12 = 0 then
        if (s.1 30 7) < (cI 60) then
          fBook_addsRange_4_h71 1048576 s a1 v7 v8 v9 (cI 0)
        else
          some (s, (cI 0))
      else
        some (s, (cI 0))
    else
      some (s, (cI 0))
  else
    some (s, (cI 0))
def fBook_adds_4 (s : ev_M) (a1 : Int32) : Option (ev_M × Int32) :=
  if a1 = (cI 80) then
    bd2 (fBook_addsPlace s (s.1 6 (ix (cI 0)))) fun s1 v2 =>
    if bz v2 = true then some (s1, v2) else none
  else
    bd1 (fBook_placeOf s (s.1 6 (ix (cI 0)))) fun v3 =>
    if v3 = (cI (-1)) then
      some (s, (cI 0))
    else
      if a1 = (cI 83) then
        bd2 (fBook_addsStreet_4 s v3) fun s4 v5 =>
        if bz v5 = true then some (s4, v5) else none
      else
        bd1 (fBook_streetOf s v3 (s.2.1 4 5)) fun v6 =>
        if v6 = (cI (-1)) then
          some (s, (cI 0))
        else
          if a1 = (cI 82) then
            bd2 (fBook_addsRange_4 s v6) fun s7 v8 =>
            if bz v8 = true then some (s7, v8) else none
          else
            bd2 (fBook_addsPoint s v6 (s.1 6 (ix (cI 1)))) fun s9 v10 =>
            if bz v10 = true then some (s9, v10) else none
def fTape_hasMore_4 (s : ev_M) : Option Int32 :=
  if (s.1 4 2) < (s.1 4 1) then
    some (cI 1)
  else
    some (cI 0)
def fBook_readText_4_b102 (k33 : ev_M → Int32 → Int32 → Int32 → Int32 → Int32 → Int32 → Option (ev_M × Int32)) (s : ev_M) (x2 : Int32) (x3 : Int32) (x4 : Int32) (x5 : Int32) (x6 : Int32) (x7 : Int32) : Option (ev_M × Int32) :=
  k33 s x2 x3 x4 x5 x6 (x7 + cI 1)
def fBook_readText_4_b59 (k33 : ev_M → Int32 → Int32 → Int32 → Int32 → Int32 → Int32 → Option (ev_M × Int32)) (s : ev_M) (x2 : Int32) (x3 : Int32) (x4 : Int32) (x5 : Int32) (x6 : Int32) (x7 : Int32) : Option (ev_M × Int32) :=
  ltI (s.1 4 2) fun v1 =>
  bd2 (fTape_readsEntry_4_1010 s) fun s2 v3 =>
  if v3 = (cI (-1)) then
    ltI (s2.1 4 2) fun v4 =>
    fBook_readText_4_b102 k33 s2 x2 x3 x4 x5 v4 x7
  else
    bd2 (fBook_adds_4 s2 v3) fun s5 v6 =>
    if v6 = 0 then
      fBook_readText_4_b102 k33 s5 x2 x3 x4 x5 v1 x7
    else
      fBook_readText_4_b102 k33 s5 x2 x3 x4 x5 x6 x7
def fBook_readText_4_b127 (s : ev_M) (x2 : Int32) (x3 : Int32) (x4 : Int32) (x5 : Int32) (x6 : Int32) : Option (ev_M × Int32) :=
  bd1 (fBook_keepFirst s x2 x3 x4 x5) fun s7 =>
  if x6 = (cI (-1)) then
    some (s7, (cI (-104)))
  else
    some (s7, ((cI (-1000)) - x6))
def fBook_readText_4_b108 (s : ev_M) (x2 : Int32) (x3 : Int32) (x4 : Int32) (x5 : Int32) (x6 : Int32) (x7 : Int32) : Option (ev_M × Int32) :=
  if x6 = (cI (-1)) then
    bd2 (fLog_admits s) fun s8 v9 =>
    if v9 = 0 then
      fBook_readText_4_b127 s8 x2 x3 x4 x5 x6
    else
      some (s8, x7)
  else
    fBook_readText_4_b127 s x2 x3 x4 x5 x6
def fBook_readText_4_h33 : Nat → ev_M → Int32 → Int32 → Int32 → Int32 → Int32 → Int32 → Option (ev_M × Int32)
  | 0, _, _, _, _, _, _, _ => none
  | n + 1, s, x2, x3, x4, x5, x6, x7 =>
    if x6 = (cI (-1)) then
      if x7 < (cI 4096) then
        if x7 = 0 then
          fBook_readText_4_b59 (fBook_readText_4_h33 n) s x2 x3 x4 x5 x6 x7
        else
          bd1 (fTape_hasMore_4 s) fun v10 =>
          if v10 = 0 then
            fBook_readText_4_b108 s x2 x3 x4 x5 x6 x7
          else
            fBook_readText_4_b59 (fBook_readText_4_h33 n) s x2 x3 x4 x5 x6 x7
      else
        fBook_readText_4_b108 s x2 x3 x4 x5 x6 x7
    else
      fBook_readText_4_b108 s x2 x3 x4 x5 x6 x7
def fBook_readText_4 (s : ev_M) : Option (ev_M × Int32) :=
  ltI (s.1 30 2) fun v11 =>
  ltI (s.1 30 4) fun v12 =>
  ltI (s.1 30 7) fun v13 =>
  ltI (s.1 30 9) fun v14 =>
  ltM (wI s 4 2 (cI 0)) fun s15 =>
  fBook_readText_4_h33 1048576 s15 v11 v12 v13 v14 (cI (-1)) (cI 0)
def fSheet_darken_4_b103 (k64 : ev_M → Int32 → Int32 → Int32 → Int32 → Option ev_M) (s : ev_M) (x2 : Int32) (x3 : Int32) (x4 : Int32) (x5 : Int32) (y1 : Int32) (y2 : Int32) : Option ev_M :=
  if inb y1 4096 = true then
  ltM (wI s 53 (ix y1) (i2b (i2b y2))) fun s1 =>
  k64 s1 x2 x3 x4 (x5 + cI 1)
  else none
def fSheet_darken_4_b102 (k64 : ev_M → Int32 → Int32 → Int32 → Int32 → Option ev_M) (s : ev_M) (x2 : Int32) (x3 : Int32) (x4 : Int32) (x5 : Int32) (y1 : Int32) : Option ev_M :=
  fSheet_darken_4_b103 k64 s x2 x3 x4 x5 y1 (cI 0)
def fSheet_darken_4_h64 : Nat → ev_M → Int32 → Int32 → Int32 → Int32 → Option ev_M
  | 0, _, _, _, _, _ => none
  | n + 1, s, x2, x3, x4, x5 =>
    if x5 < (s.1 4 1) then
      if x4 = 0 then
        fSheet_darken_4_b102 (fSheet_darken_4_h64 n) s x2 x3 x4 x5 x5
      else
        bd1 (fTape_byteAt_4 s x5) fun v2 =>
        if ((cI 2) * v2) < (x2 + x3) then
          fSheet_darken_4_b103 (fSheet_darken_4_h64 n) s x2 x3 x4 x5 x5 (cI 1)
        else
          fSheet_darken_4_b102 (fSheet_darken_4_h64 n) s x2 x3 x4 x5 x5
    else
      some s
def fSheet_darken_4_b59 (s : ev_M) (x2 : Int32) (x3 : Int32) (y0 : Int32) : Option ev_M :=
  fSheet_darken_4_h64 1048576 s x2 x3 y0 (cI 0)
def fSheet_darken_4_h9 : Nat → ev_M → Int32 → Int32 → Int32 → Option ev_M
  | 0, _, _, _, _ => none
  | n + 1, s, x2, x3, x4 =>
    if x4 < (s.1 4 1) then
      bd1 (fTape_byteAt_4 s x4) fun v3 =>
      bd1 (fMath_min s x2 v3) fun v4 =>
      bd1 (fTape_byteAt_4 s x4) fun v5 =>
      bd1 (fMath_max s x3 v5) fun v6 =>
      (fSheet_darken_4_h9 n) s v4 v6 (x4 + cI 1)
    else
      if (x3 - x2) < (cI 32) then
        fSheet_darken_4_b59 s x2 x3 (cI 0)
      else
        fSheet_darken_4_b59 s x2 x3 (cI 1)
def fSheet_darken_4 (s : ev_M) : Option ev_M :=
  fSheet_darken_4_h9 1048576 s (cI 255) (cI 0) (cI 0)
def fSheet_show_4 (s : ev_M) (a2 : Int32) : Option (ev_M × Int32) :=
  bd1 (fPH_outside s a2 (cI 8) (cI 128)) fun v1 =>
  if v1 = 0 then
    if (s.1 4 1) = 0 then
      some (s, (cI (-102)))
    else
      if a2 = 0 then none else
      if (irem (s.1 4 1) a2) = 0 then
        bd2 (fLog_admits s) fun s2 v3 =>
        if v3 = 0 then
          some (s2, (cI (-104)))
        else
          ltM (wI s2 52 2 (cI 1)) fun s4 =>
          ltM (wI s4 52 4 a2) fun s5 =>
          if a2 = 0 then none else
          ltM (wI s5 52 5 ((s5.1 4 1) / a2)) fun s6 =>
          bd1 (fSheet_darken_4 s6) fun s7 =>
          bd1 (fSheet_findParts s7) fun s8 =>
          bd1 (fSheet_joinLines s8) fun s9 =>
          bd1 (fSheet_orderParts s9) fun s10 =>
          bd1 (fSheet_keepLines s10) fun s11 =>
          bd2 (fSheet_reading s11) fun s12 v13 =>
          some (s12, v13)
      else
        some (s, (cI (-102)))
  else
    some (s, (cI (-102)))
def fTape_readsEntry_4_1011_h56 : Nat → ev_M → Int32 → Int32 → Option (ev_M × Int32)
  | 0, _, _, _ => none
  | n + 1, s, x2, x3 =>
    bd1 (fSlen 1011) fun v1 =>
    if x3 < v1 then
      bd1 (fSat 1011 x3) fun v2 =>
      bd2 (fTape_reads_4 s v2) fun s3 v4 =>
      if v4 = 0 then
        some (s3, (cI (-1)))
      else
        if v2 = (cI 59) then
          some (s3, x2)
        else
          (fTape_readsEntry_4_1011_h56 n) s3 x2 (x3 + cI 1)
    else
      some (s, (cI (-1)))
def fTape_readsEntry_4_1011_b36 (s : ev_M) (x2 : Int32) (y0 : Int32) : Option (ev_M × Int32) :=
  if y0 < 0 then
    some (s, (cI (-1)))
  else
    ltM (wI s 4 2 ((s.1 4 2) + (cI 1))) fun s5 =>
    fTape_readsEntry_4_1011_h56 1048576 s5 x2 (y0 + cI 1)
def fTape_readsEntry_4_1011_b35 (s : ev_M) (x2 : Int32) : Option (ev_M × Int32) :=
  fTape_readsEntry_4_1011_b36 s x2 (cI (-1))
def fTape_readsEntry_4_1011 (s : ev_M) : Option (ev_M × Int32) :=
  ltM (wI s 4 4 (cI 0)) fun s6 =>
  bd1 (fTape_byteAt_4 s6 (s6.1 4 2)) fun v7 =>
  if v7 < (cI 65) then
    fTape_readsEntry_4_1011_b35 s6 v7
  else
    if v7 ≤ (cI 90) then
      bd1 (fSix 1011 (i2c v7)) fun v8 =>
      fTape_readsEntry_4_1011_b36 s6 v7 v8
    else
      fTape_readsEntry_4_1011_b35 s6 v7
def fMoney_adds_4_b102 (k64 : ev_M → Int32 → Int32 → Int32 → Option (ev_M × Int32)) (s : ev_M) (x3 : Int32) (x4 : Int32) (x5 : Int32) : Option (ev_M × Int32) :=
  k64 s x3 x4 (x5 + cI 1)
def fMoney_adds_4_h64 : Nat → ev_M → Int32 → Int32 → Int32 → Option (ev_M × Int32)
  | 0, _, _, _, _ => none
  | n + 1, s, x3, x4, x5 =>
    if x5 < (s.1 78 13) then
      if inb x5 40 = true then
      if (s.1 (97 + (ix (cI 0))) (ix x5)) = x3 then
        if inb x5 40 = true then
        if (s.1 (97 + (ix (cI 1))) (ix x5)) < x4 then
          fMoney_adds_4_b102 (fMoney_adds_4_h64 n) s x3 x4 x5
        else
          some (s, (cI 0))
        else none
      else
        fMoney_adds_4_b102 (fMoney_adds_4_h64 n) s x3 x4 x5
      else none
    else
      bd2 (fMoney_addsRow s x3 x4 (s.1 6 (ix (cI 2)))) fun s1 v2 =>
      if bz v2 = true then some (s1, v2) else none
def fMoney_adds_4 (s : ev_M) (a1 : Int32) : Option (ev_M × Int32) :=
  if a1 = (cI 86) then
    bd2 (fMoney_addsService s (s.1 6 (ix (cI 0))) (s.1 6 (ix (cI 1)))) fun s3 v4 =>
    if bz v4 = true then some (s3, v4) else none
  else
    ltI (s.1 6 (ix (cI 0))) fun v5 =>
    ltI (s.1 6 (ix (cI 1))) fun v6 =>
    bd1 (fPH_outside s v5 (cI 0) (cI 3)) fun v7 =>
    if v7 = 0 then
      bd1 (fPH_outside s v6 (cI 1) (cI 30000)) fun v8 =>
      if v8 = 0 then
        fMoney_adds_4_h64 1048576 s v5 v6 (cI 0)
      else
        some (s, (cI 0))
    else
      some (s, (cI 0))
def fMoney_readTariff_4_b78 (k14 : ev_M → Int32 → Int32 → Option (ev_M × Int32)) (s : ev_M) (x2 : Int32) (x3 : Int32) : Option (ev_M × Int32) :=
  k14 s x2 (x3 + cI 1)
def fMoney_readTariff_4_b37 (k14 : ev_M → Int32 → Int32 → Option (ev_M × Int32)) (s : ev_M) (x2 : Int32) (x3 : Int32) : Option (ev_M × Int32) :=
  ltI (s.1 4 2) fun v1 =>
  bd2 (fTape_readsEntry_4_1011 s) fun s2 v3 =>
  if v3 = (cI (-1)) then
    ltI (s2.1 4 2) fun v4 =>
    fMoney_readTariff_4_b78 k14 s2 v4 x3
  else
    bd2 (fMoney_adds_4 s2 v3) fun s5 v6 =>
    if v6 = 0 then
      fMoney_readTariff_4_b78 k14 s5 v1 x3
    else
      fMoney_readTariff_4_b78 k14 s5 x2 x3
def fMoney_readTariff_4_h118 : Nat → ev_M → Int32 → Option (ev_M × Int32)
  | 0, _, _ => none
  | n + 1, s, x3 =>
    if x3 ≤ (cI 2) then
      if inb x3 3 = true then
      if inb x3 3 = true then
      bd1 (fACP s 40 40 (97 + (ix x3)) (93 + (ix x3)) (cI 0) (cI 0) (s.1 78 11)) fun s7 =>
      (fMoney_readTariff_4_h118 n) s7 (x3 + cI 1)
      else none
      else none
    else
      some (s, (s.1 78 11))
def fMoney_readTariff_4_b84 (s : ev_M) (x2 : Int32) : Option (ev_M × Int32) :=
  if x2 = (cI (-1)) then
    bd2 (fLog_admits s) fun s8 v9 =>
    if v9 = 0 then
      some (s8, (cI (-104)))
    else
      ltM (wI s8 78 11 (s8.1 78 13)) fun s10 =>
      fMoney_readTariff_4_h118 1048576 s10 (cI 0)
  else
    some (s, ((cI (-1000)) - x2))
def fMoney_readTariff_4_h14 : Nat → ev_M → Int32 → Int32 → Option (ev_M × Int32)
  | 0, _, _, _ => none
  | n + 1, s, x2, x3 =>
    if x3 < (cI 4096) then
      if x2 = (cI (-1)) then
        if x3 = 0 then
          fMoney_readTariff_4_b37 (fMoney_readTariff_4_h14 n) s x2 x3
        else
          bd1 (fTape_hasMore_4 s) fun v11 =>
          if v11 = 0 then
            fMoney_readTariff_4_b84 s x2
          else
            fMoney_readTariff_4_b37 (fMoney_readTariff_4_h14 n) s x2 x3
      else
        fMoney_readTariff_4_b84 s x2
    else
      fMoney_readTariff_4_b84 s x2
def fMoney_readTariff_4 (s : ev_M) : Option (ev_M × Int32) :=
  ltM (wI s 78 13 (cI 0)) fun s12 =>
  ltM (wI s12 4 2 (cI 0)) fun s13 =>
  fMoney_readTariff_4_h14 1048576 s13 (cI (-1)) (cI 0)
def fPH_act_4_b677 (s : ev_M) (y1 : Int32) (y2 : Int32) (y3 : Int32) : Option (ev_M × Int32) :=
  bd2 (fChron_setWish s y1 y2 y3) fun s1 v2 =>
  some (s1, v2)
def fPH_act_4 (s : ev_M) : Option (ev_M × Int32) :=
  ltI (s.1 14 (ix (cI 0))) fun v3 =>
  ltI (s.1 14 (ix (cI 1))) fun v4 =>
  ltI (s.1 14 (ix (cI 2))) fun v5 =>
  ltI (s.1 14 (ix (cI 3))) fun v6 =>
  ltI (s.1 14 (ix (cI 4))) fun v7 =>
  ltI (s.1 14 (ix (cI 5))) fun v8 =>
  if (s.1 9 14) = cI 1 then
    bd2 (fBook_readText_4 s) fun s9 v10 =>
    some (s9, v10)
  else
  if (s.1 9 14) = cI 2 then
    bd2 (fBook_tellForwarding s v3 v4 v5 v6) fun s11 v12 =>
    some (s11, v12)
  else
  if (s.1 9 14) = cI 3 then
    bd2 (fBook_tellHold s v3 v4 v5) fun s13 v14 =>
    some (s13, v14)
  else
  if (s.1 9 14) = cI 4 then
    bd2 (fSheet_show_4 s v3) fun s15 v16 =>
    some (s15, v16)
  else
  if (s.1 9 14) = cI 5 then
    bd2 (fItems_tell s v3 v4 v5 v6 v7 v8) fun s17 v18 =>
    some (s17, v18)
  else
  if (s.1 9 14) = cI 6 then
    bd2 (fItems_setAddress s v3 v4) fun s19 v20 =>
    some (s19, v20)
  else
  if (s.1 9 14) = cI 7 then
    bd2 (fItems_takeReading s v3) fun s21 v22 =>
    some (s21, v22)
  else
  if (s.1 9 14) = cI 8 then
    bd2 (fItems_hearClerk s v3 v4 v5) fun s23 v24 =>
    some (s23, v24)
  else
  if (s.1 9 14) = cI 9 then
    bd2 (fItems_postAt s v3 v4) fun s25 v26 =>
    some (s25, v26)
  else
  if (s.1 9 14) = cI 10 then
    bd2 (fRounds_setMachine s v3 v4 v5 v6) fun s27 v28 =>
    some (s27, v28)
  else
  if (s.1 9 14) = cI 11 then
    bd2 (fRounds_make s v3 v4 v5) fun s29 v30 =>
    some (s29, v30)
  else
  if (s.1 9 14) = cI 12 then
    bd2 (fRounds_addStop s v3 v4) fun s31 v32 =>
    some (s31, v32)
  else
  if (s.1 9 14) = cI 13 then
    bd2 (fRounds_arrangeStops s v3) fun s33 v34 =>
    some (s33, v34)
  else
  if (s.1 9 14) = cI 14 then
    bd2 (fRounds_sortItems s v3) fun s35 v36 =>
    some (s35, v36)
  else
  if (s.1 9 14) = cI 15 then
    bd2 (fRounds_sendOut s v3) fun s37 v38 =>
    some (s37, v38)
  else
  if (s.1 9 14) = cI 16 then
    bd2 (fLines_make s v3 v4 v5 v6 v7) fun s39 v40 =>
    some (s39, v40)
  else
  if (s.1 9 14) = cI 17 then
    bd2 (fLines_delay s v3 v4) fun s41 v42 =>
    some (s41, v42)
  else
  if (s.1 9 14) = cI 18 then
    bd2 (fLines_makeBag s v3 v4) fun s43 v44 =>
    some (s43, v44)
  else
  if (s.1 9 14) = cI 19 then
    bd2 (fLines_fillBag s v3 v4) fun s45 v46 =>
    some (s45, v46)
  else
  if (s.1 9 14) = cI 20 then
    bd2 (fLines_shutBag s v3) fun s47 v48 =>
    some (s47, v48)
  else
  if (s.1 9 14) = cI 21 then
    bd2 (fLines_emptyBag s v3) fun s49 v50 =>
    some (s49, v50)
  else
  if (s.1 9 14) = cI 22 then
    bd2 (fItems_handAtDoor s v3 v4 v5 v6) fun s51 v52 =>
    some (s51, v52)
  else
  if (s.1 9 14) = cI 23 then
    bd2 (fItems_missAtDoor s v3) fun s53 v54 =>
    some (s53, v54)
  else
  if (s.1 9 14) = cI 24 then
    bd2 (fItems_refuseItem s v3) fun s55 v56 =>
    some (s55, v56)
  else
  if (s.1 9 14) = cI 25 then
    bd2 (fLock_fill s v3 v4) fun s57 v58 =>
    some (s57, v58)
  else
  if (s.1 9 14) = cI 26 then
    bd2 (fItems_handAtPost s v3 v4 v5 v6) fun s59 v60 =>
    some (s59, v60)
  else
  if (s.1 9 14) = cI 27 then
    bd2 (fLock_tryKey s v3 v4) fun s61 v62 =>
    some (s61, v62)
  else
  if (s.1 9 14) = cI 28 then
    bd2 (fPH_loseItem s v3) fun s63 v64 =>
    some (s63, v64)
  else
  if (s.1 9 14) = cI 29 then
    bd2 (fMoney_openAccount s v3) fun s65 v66 =>
    some (s65, v66)
  else
  if (s.1 9 14) = cI 30 then
    bd2 (fMoney_payIn s v3 v4) fun s67 v68 =>
    some (s67, v68)
  else
  if (s.1 9 14) = cI 31 then
    bd2 (fMoney_readTariff_4 s) fun s69 v70 =>
    some (s69, v70)
  else
  if (s.1 9 14) = cI 32 then
    bd2 (fItems_frankItem s v3) fun s71 v72 =>
    some (s71, v72)
  else
  if (s.1 9 14) = cI 33 then
    bd2 (fMoney_makeOrder s v3 v4 v5) fun s73 v74 =>
    some (s73, v74)
  else
  if (s.1 9 14) = cI 34 then
    bd2 (fMoney_payOrder s v3 v4 v5) fun s75 v76 =>
    some (s75, v76)
  else
  if (s.1 9 14) = cI 35 then
    bd2 (fItems_claimFor s v3 v4) fun s77 v78 =>
    some (s77, v78)
  else
  if (s.1 9 14) = cI 36 then
    bd2 (fLock_make s v3 v4) fun s79 v80 =>
    some (s79, v80)
  else
  if (s.1 9 14) = cI 37 then
    bd2 (fChron_setDevice s v3 v4) fun s81 v82 =>
    some (s81, v82)
  else
  if (s.1 9 14) = cI 38 then
    bd2 (fPH_scanItem s v3 v4 v5 v6) fun s83 v84 =>
    some (s83, v84)
  else
  if (s.1 9 14) = cI 39 then
    bd1 (fMoney_isCustomer s v3) fun v85 =>
    if v85 = 0 then
      some (s, (cI (-101)))
    else
      if v5 = (cI 1) then
        fPH_act_4_b677 s v3 v4 (cI 1)
      else
        fPH_act_4_b677 s v3 v4 (cI 0)
  else
  if (s.1 9 14) = cI 40 then
    bd2 (fPH_goOn s v3) fun s86 v87 =>
    some (s86, v87)
  else
  some (s, (cI (-101)))
def fLog_gather_h9 : Nat → ev_M → Int32 → Int32 → Int32 → Option ev_M
  | 0, _, _, _, _ => none
  | n + 1, s, x1, x2, x3 =>
    if x3 < x2 then
      bd1 (fLog_byteAt s x1 ((cI 4) + x3)) fun v1 =>
      bd1 (fLog_append s v1) fun s2 =>
      (fLog_gather_h9 n) s2 x1 x2 (x3 + cI 1)
    else
      some s
def fLog_gather (s : ev_M) (a1 : Int32) : Option ev_M :=
  bd1 (fLog_byteAt s a1 (cI 3)) fun v3 =>
  fLog_gather_h9 1048576 s a1 v3 (cI 0)
def fLog_isLast (s : ev_M) (a1 : Int32) : Option Int32 :=
  bd1 (fLog_byteAt s a1 (cI 2)) fun v1 =>
  if v1 = (cI 1) then
    some (cI 1)
  else
    some (cI 0)
def fLog_endAgain (s : ev_M) : Option (ev_M × Int32) :=
  ltM (wI s 9 12 (cI 0)) fun s1 =>
  ltM (wI s1 9 9 (cI 0)) fun s2 =>
  some (s2, (s2.1 9 13))
def fArr_fillI_20_h5 : Nat → ev_M → Int32 → Int32 → Int32 → Option ev_M
  | 0, _, _, _, _ => none
  | n + 1, s, x1, x2, x3 =>
    if x2 < x3 then
      if inb x2 300 = true then
      ltM (wI s 20 (ix x2) x1) fun s1 =>
      (fArr_fillI_20_h5 n) s1 x1 (x2 + cI 1) x3
      else none
    else
      some s
def fArr_fillI_20 (s : ev_M) (a1 : Int32) : Option ev_M :=
  fArr_fillI_20_h5 1048576 s a1 (cI 0) (cI 300)
def fArr_fillI_21_h5 : Nat → ev_M → Int32 → Int32 → Int32 → Option ev_M
  | 0, _, _, _, _ => none
  | n + 1, s, x1, x2, x3 =>
    if x2 < x3 then
      if inb x2 300 = true then
      ltM (wI s 21 (ix x2) x1) fun s1 =>
      (fArr_fillI_21_h5 n) s1 x1 (x2 + cI 1) x3
      else none
    else
      some s
def fArr_fillI_21 (s : ev_M) (a1 : Int32) : Option ev_M :=
  fArr_fillI_21_h5 1048576 s a1 (cI 0) (cI 300)
def fArr_fillI_28_h5 : Nat → ev_M → Int32 → Int32 → Int32 → Option ev_M
  | 0, _, _, _, _ => none
  | n + 1, s, x1, x2, x3 =>
    if x2 < x3 then
      if inb x2 34 = true then
      ltM (wI s 28 (ix x2) x1) fun s1 =>
      (fArr_fillI_28_h5 n) s1 x1 (x2 + cI 1) x3
      else none
    else
      some s
def fArr_fillI_28 (s : ev_M) (a1 : Int32) : Option ev_M :=
  fArr_fillI_28_h5 1048576 s a1 (cI 0) (cI 34)
def fArr_fillI_29_h5 : Nat → ev_M → Int32 → Int32 → Int32 → Option ev_M
  | 0, _, _, _, _ => none
  | n + 1, s, x1, x2, x3 =>
    if x2 < x3 then
      if inb x2 8 = true then
      ltM (wI s 29 (ix x2) x1) fun s1 =>
      (fArr_fillI_29_h5 n) s1 x1 (x2 + cI 1) x3
      else none
    else
      some s
def fArr_fillI_29 (s : ev_M) (a1 : Int32) : Option ev_M :=
  fArr_fillI_29_h5 1048576 s a1 (cI 0) (cI 8)
def fChron_clear (s : ev_M) : Option ev_M :=
  ltM (wI s 15 1 (cI 0)) fun s1 =>
  ltM (wI s1 15 2 (cI 0)) fun s2 =>
  ltM (wI s2 15 7 (cI 0)) fun s3 =>
  bd1 (fArr_fillI_20 s3 (cI (-1))) fun s4 =>
  bd1 (fArr_fillI_21 s4 (cI (-1))) fun s5 =>
  bd1 (fArr_fillI_28 s5 (cI 0)) fun s6 =>
  bd1 (fArr_fillI_29 s6 (cI 0)) fun s7 =>
  some s7
def fBook_clear (s : ev_M) : Option ev_M :=
  bd1 (fBook_keepFirst s (cI 0) (cI 0) (cI 0) (cI 0)) fun s1 =>
  ltM (wI s1 30 11 (cI 0)) fun s2 =>
  some s2
def fSheet_clear (s : ev_M) : Option ev_M :=
  ltM (wI s 52 2 (cI 0)) fun s1 =>
  ltM (wI s1 52 3 (cI (-1))) fun s2 =>
  ltM (wI s2 52 13 (cI 0)) fun s3 =>
  some s3
def fArr_fillB_80_h6 : Nat → ev_M → Int64 → Int32 → Int32 → Option ev_M
  | 0, _, _, _, _ => none
  | n + 1, s, x1, x3, x4 =>
    if x3 < x4 then
      if inb x3 34 = true then
      ltM (wL s 80 (ix x3) x1) fun s1 =>
      (fArr_fillB_80_h6 n) s1 x1 (x3 + cI 1) x4
      else none
    else
      some s
def fArr_fillB_80 (s : ev_M) (a1 : Int64) : Option ev_M :=
  fArr_fillB_80_h6 1048576 s a1 (cI 0) (cI 34)
def fMoney_clear (s : ev_M) : Option ev_M :=
  ltM (wI s 78 3 (cI 0)) fun s1 =>
  ltM (wI s1 78 6 (cI 0)) fun s2 =>
  ltM (wI s2 78 8 (cI 0)) fun s3 =>
  ltM (wI s3 78 9 (cI 0)) fun s4 =>
  ltM (wI s4 78 11 (cI 0)) fun s5 =>
  bd1 (fArr_fillB_80 s5 (cL 0)) fun s6 =>
  some s6
def fItems_clear (s : ev_M) : Option ev_M :=
  ltM (wI s 100 5 (cI 0)) fun s1 =>
  ltM (wI s1 100 6 (cI 0)) fun s2 =>
  some s2
def fLock_clear (s : ev_M) : Option ev_M :=
  ltM (wI s 125 3 (cI 0)) fun s1 =>
  some s1
def fArr_fillI_158_h5 : Nat → ev_M → Int32 → Int32 → Int32 → Option ev_M
  | 0, _, _, _, _ => none
  | n + 1, s, x1, x2, x3 =>
    if x2 < x3 then
      if inb x2 120 = true then
      ltM (wI s 158 (ix x2) x1) fun s1 =>
      (fArr_fillI_158_h5 n) s1 x1 (x2 + cI 1) x3
      else none
    else
      some s
def fArr_fillI_158 (s : ev_M) (a1 : Int32) : Option ev_M :=
  fArr_fillI_158_h5 1048576 s a1 (cI 0) (cI 120)
def fRounds_clear (s : ev_M) : Option ev_M :=
  ltM (wI s 138 3 (cI 0)) fun s1 =>
  ltM (wI s1 138 9 (cI 0)) fun s2 =>
  ltM (wI s2 138 10 (cI 0)) fun s3 =>
  bd1 (fArr_fillI_158 s3 (cI (-1))) fun s4 =>
  ltM (wI s4 172 (ix (cI 0)) (cI 4)) fun s5 =>
  ltM (wI s5 172 (ix (cI 1)) (cI 100)) fun s6 =>
  ltM (wI s6 172 (ix (cI 2)) (cI 50)) fun s7 =>
  ltM (wI s7 172 (ix (cI 3)) (cI 80)) fun s8 =>
  some s8
def fLines_clear (s : ev_M) : Option ev_M :=
  ltM (wI s 449 4 (cI 0)) fun s1 =>
  ltM (wI s1 449 6 (cI 0)) fun s2 =>
  some s2
def fPH_clearHouse (s : ev_M) : Option ev_M :=
  bd1 (fChron_clear s) fun s1 =>
  bd1 (fBook_clear s1) fun s2 =>
  bd1 (fSheet_clear s2) fun s3 =>
  bd1 (fMoney_clear s3) fun s4 =>
  bd1 (fItems_clear s4) fun s5 =>
  bd1 (fLock_clear s5) fun s6 =>
  bd1 (fRounds_clear s6) fun s7 =>
  bd1 (fLines_clear s7) fun s8 =>
  some s8
def fLog_sumOf_10_h4 (s : ev_M) : Nat → Int32 → Int32 → Int32 → Option Int32
  | 0, _, _, _ => none
  | n + 1, x1, x2, x3 =>
    if x3 < (x1 + (cI 252)) then
      if x3 < (cI 38400) then
        if inb x3 38400 = true then
        ltI (x2 ^^^ ((s.1 10 (ix x3)) &&& (cI 255))) fun v1 =>
        ltI (((v1 <<< ((cI 3) &&& 31)) ||| (iushr v1 (cI 29))) * (cI (-2048144777))) fun v2 =>
        (fLog_sumOf_10_h4 s n) x1 v2 (x3 + cI 1)
        else none
      else
        some x2
    else
      some x2
def fLog_sumOf_10 (s : ev_M) (a1 : Int32) : Option Int32 :=
  fLog_sumOf_10_h4 s 1048576 a1 (cI 0) a1
def fLog_isRight_h101 (s : ev_M) : Nat → Int32 → Int32 → Int32 → Option Int32
  | 0, _, _, _ => none
  | n + 1, x1, x3, x4 =>
    if x4 < (cI 256) then
      bd1 (fLog_byteAt s x1 x4) fun v1 =>
      ltI ((x3 <<< ((cI 8) &&& 31)) ||| v1) fun v2 =>
      (fLog_isRight_h101 s n) x1 v2 (x4 + cI 1)
    else
      bd1 (fLog_sumOf_10 s ((x1 - (cI 1)) * (cI 256))) fun v3 =>
      if x3 = v3 then
        some (cI 1)
      else
        some (cI 0)
def fLog_isRight_b94 (s : ev_M) (x1 : Int32) : Option Int32 :=
  fLog_isRight_h101 s 1048576 x1 (cI 0) (cI 252)
def fLog_isRight (s : ev_M) (a1 : Int32) : Option Int32 :=
  bd1 (fPH_outside s a1 (cI 1) (cI 150)) fun v4 =>
  if v4 = 0 then
    if inb (a1 - (cI 1)) 150 = true then
    if (s.1 11 (ix (a1 - (cI 1)))) = 0 then
      bd1 (fLog_byteAt s a1 (cI 3)) fun v5 =>
      bd1 (fLog_byteAt s a1 (cI 0)) fun v6 =>
      bd1 (fLog_byteAt s a1 (cI 1)) fun v7 =>
      if (v6 <<< ((cI 8) &&& 31)) = (a1 - v7) then
        bd1 (fLog_byteAt s a1 (cI 2)) fun v8 =>
        if v8 ≤ (cI 1) then
          bd1 (fLog_isLast s a1) fun v9 =>
          if v9 = 0 then
            if v5 = (cI 248) then
              fLog_isRight_b94 s a1
            else
              some (cI 0)
          else
            bd1 (fPH_outside s v5 (cI 1) (cI 248)) fun v10 =>
            if v10 = 0 then
              fLog_isRight_b94 s a1
            else
              some (cI 0)
        else
          some (cI 0)
      else
        some (cI 0)
    else
      some (cI 0)
    else none
  else
    some (cI 0)
def fLog_beginAgain_b35 (k7 : ev_M → Int32 → Option ev_M) (s : ev_M) (x1 : Int32) : Option ev_M :=
  k7 s (x1 + cI 1)
def fLog_beginAgain_b41 (s : ev_M) : Option ev_M :=
  ltM (wI s 9 10 (cI (-1))) fun s1 =>
  ltM (wI s1 9 12 (cI 1)) fun s2 =>
  ltM (wI s2 9 13 (cI 0)) fun s3 =>
  bd1 (fLog_forgetGathered s3) fun s4 =>
  some s4
def fLog_beginAgain_h7 : Nat → ev_M → Int32 → Option ev_M
  | 0, _, _ => none
  | n + 1, s, x1 =>
    if x1 ≤ (cI 150) then
      bd1 (fLog_isRight s x1) fun v5 =>
      if v5 = 0 then
        fLog_beginAgain_b41 s
      else
        bd1 (fLog_isLast s x1) fun v6 =>
        if v6 = 0 then
          fLog_beginAgain_b35 (fLog_beginAgain_h7 n) s x1
        else
          ltM (wI s 9 4 x1) fun s7 =>
          fLog_beginAgain_b35 (fLog_beginAgain_h7 n) s7 x1
    else
      fLog_beginAgain_b41 s
def fLog_beginAgain (s : ev_M) : Option ev_M :=
  ltM (wI s 9 4 (cI 0)) fun s8 =>
  fLog_beginAgain_h7 1048576 s8 (cI 1)
def fPH_start_b100 (k26 : ev_M → Int32 → Option (ev_M × Int32)) (s : ev_M) (x1 : Int32) : Option (ev_M × Int32) :=
  k26 s (x1 + cI 1)
def fPH_start_b93 (k26 : ev_M → Int32 → Option (ev_M × Int32)) (s : ev_M) (x1 : Int32) : Option (ev_M × Int32) :=
  bd1 (fLog_forgetGathered s) fun s1 =>
  fPH_start_b100 k26 s1 x1
def fPH_start_h58 (k26 : ev_M → Int32 → Option (ev_M × Int32)) : Nat → ev_M → Int32 → Int32 → Option (ev_M × Int32)
  | 0, _, _, _ => none
  | n + 1, s, x1, x2 =>
    if x2 < (cI 37200) then
      bd2 (fLog_readsRecord_4 s) fun s2 v3 =>
      if v3 = 0 then
        fPH_start_b93 k26 s2 x1
      else
        bd2 (fPH_act_4 s2) fun s4 v5 =>
        (fPH_start_h58 k26 n) s4 x1 (x2 + cI 1)
    else
      fPH_start_b93 k26 s x1
def fPH_start_h26 : Nat → ev_M → Int32 → Option (ev_M × Int32)
  | 0, _, _ => none
  | n + 1, s, x1 =>
    if x1 ≤ (s.1 9 4) then
      bd1 (fLog_gather s x1) fun s6 =>
      bd1 (fLog_isLast s6 x1) fun v7 =>
      if v7 = 0 then
        fPH_start_b100 (fPH_start_h26 n) s6 x1
      else
        fPH_start_h58 (fPH_start_h26 n) 1048576 s6 x1 (cI 0)
    else
      bd2 (fLog_endAgain s) fun s8 v9 =>
      some (s8, v9)
def fPH_start (s : ev_M) : Option (ev_M × Int32) :=
  if (s.1 9 9) = 0 then
    some (s, (cI (-103)))
  else
    bd1 (fPH_clearHouse s) fun s10 =>
    bd1 (fLog_beginAgain s10) fun s11 =>
    fPH_start_h26 1048576 s11 (cI 1)
def fM_at (s : ev_M) (a1 : Int32) (a2 : Int32) : Option Int32 :=
  if inb (((cI 256) * a1) + a2) 38656 = true then
  some ((s.1 551 (ix (((cI 256) * a1) + a2))) &&& (cI 255))
  else none
def fM_next (s : ev_M) : Option (ev_M × Int32) :=
  ltM (wI s 549 21 ((s.1 549 21) + (cI 1))) fun s1 =>
  if inb ((s1.1 549 21) - (cI 1)) 37200 = true then
  some (s1, ((s1.1 557 (ix ((s1.1 549 21) - (cI 1)))) &&& (cI 255)))
  else none
def fM_lacks (s : ev_M) (a1 : Int32) : Option Int32 :=
  if ((s.1 549 21) + a1) ≤ (s.1 549 20) then
    some (cI 0)
  else
    some (cI 1)
def fM_isRecord_h194 : Nat → ev_M → Int32 → Option (ev_M × Int32)
  | 0, _, _ => none
  | n + 1, s, x1 =>
    if x1 < (s.1 549 13) then
      bd2 (fM_next s) fun s1 v2 =>
      if inb x1 4096 = true then
      ltM (wI s1 554 (ix x1) (i2b (i2b v2))) fun s3 =>
      (fM_isRecord_h194 n) s3 (x1 + cI 1)
      else none
    else
      some (s, (cI 1))
def fM_isRecord_b123 (s : ev_M) : Option (ev_M × Int32) :=
  bd1 (fM_reads s (s.1 549 16)) fun v4 =>
  if v4 = 0 then
    some (s, (cI 1))
  else
    bd1 (fM_lacks s (cI 2)) fun v5 =>
    if v5 = 0 then
      bd2 (fM_next s) fun s6 v7 =>
      ltM (wI s6 549 13 (v7 <<< ((cI 8) &&& 31))) fun s8 =>
      bd2 (fM_next s8) fun s9 v10 =>
      ltM (wI s9 549 13 ((s8.1 549 13) ||| v10)) fun s11 =>
      if (s11.1 549 13) ≤ (cI 4096) then
        bd1 (fM_lacks s11 (s11.1 549 13)) fun v12 =>
        if v12 = 0 then
          fM_isRecord_h194 1048576 s11 (cI 0)
        else
          some (s11, (cI 0))
      else
        some (s11, (cI 0))
    else
      some (s, (cI 0))
def fM_isRecord_h41 : Nat → ev_M → Int32 → Option (ev_M × Int32)
  | 0, _, _ => none
  | n + 1, s, x1 =>
    bd1 (fM_argumentsOf s (s.1 549 16)) fun v13 =>
    if x1 < v13 then
      bd2 (fM_next s) fun s14 v15 =>
      ltI (v15 <<< ((cI 24) &&& 31)) fun v16 =>
      bd2 (fM_next s14) fun s17 v18 =>
      ltI (v16 ||| (v18 <<< ((cI 16) &&& 31))) fun v19 =>
      bd2 (fM_next s17) fun s20 v21 =>
      ltI (v19 ||| (v21 <<< ((cI 8) &&& 31))) fun v22 =>
      bd2 (fM_next s20) fun s23 v24 =>
      if inb x1 6 = true then
      ltM (wI s23 553 (ix x1) (v22 ||| v24)) fun s25 =>
      (fM_isRecord_h41 n) s25 (x1 + cI 1)
      else none
    else
      if (s.1 549 16) = (cI 39) then
        bd1 (fM_in s (s.1 553 (ix (cI 2))) (cI 0) (cI 1)) fun v26 =>
        if v26 = 0 then
          some (s, (cI 0))
        else
          fM_isRecord_b123 s
      else
        fM_isRecord_b123 s
def fM_isRecord (s : ev_M) : Option (ev_M × Int32) :=
  bd2 (fM_next s) fun s27 v28 =>
  ltM (wI s27 549 16 v28) fun s29 =>
  bd1 (fM_in s29 (s29.1 549 16) (cI 1) (cI 40)) fun v30 =>
  if v30 = 0 then
    some (s29, (cI 0))
  else
    bd1 (fM_argumentsOf s29 (s29.1 549 16)) fun v31 =>
    bd1 (fM_lacks s29 ((cI 4) * v31)) fun v32 =>
    if v32 = 0 then
      fM_isRecord_h41 1048576 s29 (cI 0)
    else
      some (s29, (cI 0))
def fM_again_b49 (k7 : ev_M → Int32 → Option (ev_M × Int32)) (s : ev_M) (y0 : Int32) : Option (ev_M × Int32) :=
  k7 s y0
def fM_again_h7 : Nat → ev_M → Int32 → Option (ev_M × Int32)
  | 0, _, _ => none
  | n + 1, s, x1 =>
    if (s.1 549 21) < (s.1 549 20) then
      bd2 (fM_isRecord s) fun s1 v2 =>
      if v2 = 0 then
        some (s1, x1)
      else
        ltM (wI s1 549 15 (cI 0)) fun s3 =>
        bd2 (fM_act s3) fun s4 v5 =>
        if (s4.1 549 15) = 0 then
          fM_again_b49 (fM_again_h7 n) s4 (x1 + (cI 1))
        else
          fM_again_b49 (fM_again_h7 n) s4 x1
    else
      some (s, x1)
def fM_again (s : ev_M) : Option (ev_M × Int32) :=
  ltM (wI s 549 21 (cI 0)) fun s6 =>
  fM_again_h7 1048576 s6 (cI 0)
def fM_empty_h162 : Nat → ev_M → Int32 → Option ev_M
  | 0, _, _ => none
  | n + 1, s, x1 =>
    if x1 < (cI 8) then
      if inb x1 8 = true then
      ltM (wI s 647 (ix x1) (cI 0)) fun s1 =>
      (fM_empty_h162 n) s1 (x1 + cI 1)
      else none
    else
      some s
def fM_empty_h140 : Nat → ev_M → Int32 → Option ev_M
  | 0, _, _ => none
  | n + 1, s, x1 =>
    if x1 < (cI 300) then
      if inb x1 300 = true then
      ltM (wI s 610 (ix x1) ((cI 0) &&& 1)) fun s2 =>
      (fM_empty_h140 n) s2 (x1 + cI 1)
      else none
    else
      fM_empty_h162 1048576 s (cI 0)
def fM_empty (s : ev_M) : Option ev_M :=
  ltM (wI s 549 22 (cI 0)) fun s3 =>
  ltM (wI s3 549 23 (cI 0)) fun s4 =>
  ltM (wI s4 549 24 (cI 0)) fun s5 =>
  ltM (wI s5 549 27 (cI 0)) fun s6 =>
  ltM (wI s6 549 33 (cI 0)) fun s7 =>
  ltM (wI s7 549 38 (cI 0)) fun s8 =>
  ltM (wI s8 549 43 (cI 0)) fun s9 =>
  ltM (wI s9 549 48 (cI 0)) fun s10 =>
  ltM (wI s10 549 49 (cI 0)) fun s11 =>
  ltM (wI s11 549 50 (cI (-1))) fun s12 =>
  ltM (wI s12 549 51 (cI 0)) fun s13 =>
  ltM (wI s13 549 58 (cI 0)) fun s14 =>
  ltM (wI s14 549 83 (cI 4)) fun s15 =>
  ltM (wI s15 549 84 (cI 100)) fun s16 =>
  ltM (wI s16 549 85 (cI 50)) fun s17 =>
  ltM (wI s17 549 86 (cI 80)) fun s18 =>
  ltM (wI s18 549 87 (cI 0)) fun s19 =>
  ltM (wI s19 549 91 (cI 0)) fun s20 =>
  ltM (wI s20 549 93 (cI 0)) fun s21 =>
  ltM (wI s21 549 101 (cI 0)) fun s22 =>
  ltM (wI s22 549 107 (cI 0)) fun s23 =>
  ltM (wI s23 549 111 (cI 0)) fun s24 =>
  ltM (wI s24 549 114 (cI 0)) fun s25 =>
  ltM (wI s25 549 119 (cI 0)) fun s26 =>
  ltM (wI s26 549 125 (cI 0)) fun s27 =>
  ltM (wI s27 549 129 (cI 0)) fun s28 =>
  ltM (wI s28 549 134 (cI 0)) fun s29 =>
  fM_empty_h140 1048576 s29 (cI 0)
def fM_sum_551_h4 (s : ev_M) : Nat → Int32 → Int32 → Int32 → Option Int32
  | 0, _, _, _ => none
  | n + 1, x1, x2, x3 =>
    if x3 < (x1 + (cI 252)) then
      if inb x3 38656 = true then
      ltI (x2 ^^^ ((s.1 551 (ix x3)) &&& (cI 255))) fun v1 =>
      ltI (((v1 <<< ((cI 3) &&& 31)) ||| (iushr v1 (cI 29))) * (cI (-2048144777))) fun v2 =>
      (fM_sum_551_h4 s n) x1 v2 (x3 + cI 1)
      else none
    else
      some x2
def fM_sum_551 (s : ev_M) (a1 : Int32) : Option Int32 :=
  fM_sum_551_h4 s 1048576 a1 (cI 0) a1
def fM_isRight_b115 (s : ev_M) (x1 : Int32) (x2 : Int32) (y0 : Int32) : Option Int32 :=
  if y0 = 0 then
    some (cI 0)
  else
    if inb x1 151 = true then
    if (s.1 555 (ix x1)) = 0 then
      bd1 (fM_sum_551 s ((cI 256) * x1)) fun v1 =>
      if x2 = v1 then
        some (cI 1)
      else
        some (cI 0)
    else
      some (cI 0)
    else none
def fM_isRight_b110 (s : ev_M) (x1 : Int32) (x2 : Int32) : Option Int32 :=
  fM_isRight_b115 s x1 x2 (cI 1)
def fM_isRight_b114 (s : ev_M) (x1 : Int32) (x2 : Int32) : Option Int32 :=
  fM_isRight_b115 s x1 x2 (cI 0)
def fM_isRight (s : ev_M) (a1 : Int32) : Option Int32 :=
  bd1 (fM_at s a1 (cI 252)) fun v2 =>
  bd1 (fM_at s a1 (cI 253)) fun v3 =>
  bd1 (fM_at s a1 (cI 254)) fun v4 =>
  bd1 (fM_at s a1 (cI 255)) fun v5 =>
  ltI ((((v2 <<< ((cI 24) &&& 31)) ||| (v3 <<< ((cI 16) &&& 31))) ||| (v4 <<< ((cI 8) &&& 31))) ||| v5) fun v6 =>
  bd1 (fM_at s a1 (cI 3)) fun v7 =>
  bd1 (fM_at s a1 (cI 0)) fun v8 =>
  bd1 (fM_at s a1 (cI 1)) fun v9 =>
  if ((v8 <<< ((cI 8) &&& 31)) ||| v9) = a1 then
    bd1 (fM_in s v7 (cI 1) (cI 248)) fun v10 =>
    if v10 = 0 then
      fM_isRight_b114 s a1 v6
    else
      bd1 (fM_at s a1 (cI 2)) fun v11 =>
      if v11 < (cI 2) then
        bd1 (fM_at s a1 (cI 2)) fun v12 =>
        if v12 = (cI 1) then
          fM_isRight_b110 s a1 v6
        else
          if v7 = (cI 248) then
            fM_isRight_b110 s a1 v6
          else
            fM_isRight_b114 s a1 v6
      else
        fM_isRight_b114 s a1 v6
  else
    fM_isRight_b114 s a1 v6
def fM_start_b56 (k22 : ev_M → Int32 → Option (ev_M × Int32)) (s : ev_M) (x1 : Int32) (y1 : Int32) : Option (ev_M × Int32) :=
  ltM (wI s 549 4 y1) fun s1 =>
  k22 s1 (x1 + cI 1)
def fM_start_b184 (k103 : ev_M → Int32 → Int32 → Option (ev_M × Int32)) (s : ev_M) (x1 : Int32) (x2 : Int32) : Option (ev_M × Int32) :=
  k103 s x1 (x2 + cI 1)
def fM_start_h113 (k103 : ev_M → Int32 → Int32 → Option (ev_M × Int32)) : Nat → ev_M → Int32 → Int32 → Int32 → Option (ev_M × Int32)
  | 0, _, _, _, _ => none
  | n + 1, s, x1, x2, x3 =>
    bd1 (fM_at s x2 (cI 3)) fun v2 =>
    if x3 < v2 then
      if inb ((((cI 256) * x2) + (cI 4)) + x3) 38656 = true then
      if inb (s.1 549 20) 37200 = true then
      ltM (wI s 557 (ix (s.1 549 20)) (i2b (s.1 551 (ix ((((cI 256) * x2) + (cI 4)) + x3))))) fun s3 =>
      ltM (wI s3 549 20 ((s3.1 549 20) + (cI 1))) fun s4 =>
      (fM_start_h113 k103 n) s4 x1 x2 (x3 + cI 1)
      else none
      else none
    else
      bd1 (fM_at s x2 (cI 2)) fun v5 =>
      if v5 = (cI 1) then
        bd2 (fM_again s) fun s6 v7 =>
        ltI (x1 + v7) fun v8 =>
        ltM (wI s6 549 20 (cI 0)) fun s9 =>
        fM_start_b184 k103 s9 v8 x2
      else
        fM_start_b184 k103 s x1 x2
def fM_start_h103 : Nat → ev_M → Int32 → Int32 → Option (ev_M × Int32)
  | 0, _, _, _ => none
  | n + 1, s, x1, x2 =>
    if x2 ≤ (s.1 549 4) then
      fM_start_h113 (fM_start_h103 n) 1048576 s x1 x2 (cI 0)
    else
      some (s, x1)
def fM_start_b65 (s : ev_M) : Option (ev_M × Int32) :=
  ltM (wI s 549 5 (cI 0)) fun s10 =>
  ltM (wI s10 549 6 (cI (-1))) fun s11 =>
  ltM (wI s11 549 9 (cI 0)) fun s12 =>
  ltM (wI s12 549 10 (cI 0)) fun s13 =>
  bd1 (fM_empty s13) fun s14 =>
  ltM (wI s14 549 14 (cI 1)) fun s15 =>
  ltM (wI s15 549 20 (cI 0)) fun s16 =>
  fM_start_h103 1048576 s16 (cI 0) (cI 1)
def fM_start_h22 : Nat → ev_M → Int32 → Option (ev_M × Int32)
  | 0, _, _ => none
  | n + 1, s, x1 =>
    if x1 ≤ (cI 150) then
      bd1 (fM_isRight s x1) fun v17 =>
      if v17 = 0 then
        fM_start_b65 s
      else
        bd1 (fM_at s x1 (cI 2)) fun v18 =>
        if v18 = (cI 1) then
          fM_start_b56 (fM_start_h22 n) s x1 x1
        else
          fM_start_b56 (fM_start_h22 n) s x1 (s.1 549 4)
    else
      fM_start_b65 s
def fM_start (s : ev_M) : Option (ev_M × Int32) :=
  ltM (wI s 549 0 (cI 0)) fun s19 =>
  if (s19.1 549 5) = 0 then
    some (s19, (cI (-103)))
  else
    ltM (wI s19 549 4 (cI 0)) fun s20 =>
    fM_start_h22 1048576 s20 (cI 1)
def fLog_firstBad_h2 (s : ev_M) : Nat → Int32 → Option Int32
  | 0, _ => none
  | n + 1, x1 =>
    if x1 ≤ (s.1 9 4) then
      bd1 (fLog_isRight s x1) fun v1 =>
      if v1 = 0 then
        some x1
      else
        (fLog_firstBad_h2 s n) (x1 + cI 1)
    else
      some (cI (-1))
def fLog_firstBad (s : ev_M) : Option Int32 :=
  fLog_firstBad_h2 s 1048576 (cI 1)
def fPH_verify (s : ev_M) : Option Int32 :=
  if (s.1 9 9) = 0 then
    bd1 (fLog_firstBad s) fun v1 =>
    some v1
  else
    some (cI (-105))
def fM_verify_b39 (s : ev_M) (x1 : Int32) : Option (ev_M × Int32) :=
  if x1 ≤ (s.1 549 4) then
    some (s, x1)
  else
    some (s, (cI (-1)))
def fM_verify_h17 : Nat → ev_M → Int32 → Option (ev_M × Int32)
  | 0, _, _ => none
  | n + 1, s, x1 =>
    if x1 ≤ (s.1 549 4) then
      bd1 (fM_isRight s x1) fun v1 =>
      if v1 = 0 then
        fM_verify_b39 s x1
      else
        (fM_verify_h17 n) s (x1 + cI 1)
    else
      fM_verify_b39 s x1
def fM_verify (s : ev_M) : Option (ev_M × Int32) :=
  ltM (wI s 549 0 (cI 0)) fun s2 =>
  if (s2.1 549 5) = 0 then
    fM_verify_h17 1048576 s2 (cI 1)
  else
    some (s2, (cI (-105)))
def fM_octet_b28 (s : ev_M) (x1 : Int32) (x2 : Int32) (y1 : Int32) : Option (ev_M × Int32) :=
  ltM (wI s 549 0 y1) fun s1 =>
  if (s1.1 549 0) ≤ 0 then
    bd1 (fM_at s1 x1 x2) fun v2 =>
    some (s1, v2)
  else
    some (s1, (cI 0))
def fM_octet_b27 (s : ev_M) (x1 : Int32) (x2 : Int32) : Option (ev_M × Int32) :=
  fM_octet_b28 s x1 x2 (cI 1)
def fM_octet (s : ev_M) (a1 : Int32) (a2 : Int32) : Option (ev_M × Int32) :=
  bd1 (fM_in s a1 (cI 1) (cI 150)) fun v3 =>
  if v3 = 0 then
    fM_octet_b27 s a1 a2
  else
    bd1 (fM_in s a2 (cI 0) (cI 255)) fun v4 =>
    if v4 = 0 then
      fM_octet_b27 s a1 a2
    else
      fM_octet_b28 s a1 a2 (cI 0)
def fM_poke_b28 (s : ev_M) (x1 : Int32) (x2 : Int32) (x3 : Int32) (y1 : Int32) : Option (ev_M × Int32) :=
  ltM (wI s 549 0 y1) fun s1 =>
  if (s1.1 549 0) ≤ 0 then
    if inb (((cI 256) * x1) + x2) 38656 = true then
    if inb (((cI 256) * x1) + x2) 38656 = true then
    ltM (wI s1 551 (ix (((cI 256) * x1) + x2)) (i2b (i2b ((s1.1 551 (ix (((cI 256) * x1) + x2))) ^^^ x3)))) fun s2 =>
    bd1 (fM_at s2 x1 x2) fun v3 =>
    some (s2, v3)
    else none
    else none
  else
    some (s1, (cI 0))
def fM_poke_b27 (s : ev_M) (x1 : Int32) (x2 : Int32) (x3 : Int32) : Option (ev_M × Int32) :=
  fM_poke_b28 s x1 x2 x3 (cI 1)
def fM_poke (s : ev_M) (a1 : Int32) (a2 : Int32) (a3 : Int32) : Option (ev_M × Int32) :=
  bd1 (fM_in s a1 (cI 1) (cI 150)) fun v4 =>
  if v4 = 0 then
    fM_poke_b27 s a1 a2 a3
  else
    bd1 (fM_in s a2 (cI 0) (cI 255)) fun v5 =>
    if v5 = 0 then
      fM_poke_b27 s a1 a2 a3
    else
      fM_poke_b28 s a1 a2 a3 (cI 0)
def fPH_count (s : ev_M) (a1 : Int32) : Option Int32 :=
  if (s.1 9 9) = 0 then
    if a1 = cI 0 then
      some (s.1 30 2)
    else
    if a1 = cI 1 then
      some (s.1 30 4)
    else
    if a1 = cI 2 then
      some (s.1 30 7)
    else
    if a1 = cI 3 then
      some (s.1 30 9)
    else
    if a1 = cI 4 then
      some (s.1 30 11)
    else
    if a1 = cI 5 then
      some (s.1 100 5)
    else
    if a1 = cI 6 then
      some (s.1 138 3)
    else
    if a1 = cI 7 then
      some (s.1 449 4)
    else
    if a1 = cI 8 then
      some (s.1 449 6)
    else
    if a1 = cI 9 then
      some (s.1 125 3)
    else
    if a1 = cI 10 then
      some (s.1 78 3)
    else
    if a1 = cI 11 then
      some (s.1 78 6)
    else
    if a1 = cI 12 then
      some (s.1 78 8)
    else
    if a1 = cI 13 then
      some (s.1 15 2)
    else
    if a1 = cI 14 then
      some (s.1 15 7)
    else
    if a1 = cI 15 then
      some (s.1 9 4)
    else
    if a1 = cI 16 then
      some (s.1 9 7)
    else
    if a1 = cI 17 then
      some (s.1 9 6)
    else
    some (cI (-102))
  else
    some (cI (-105))
def fM_count (s : ev_M) (a1 : Int32) : Option (ev_M × Int32) :=
  ltM (wI s 549 0 (cI 0)) fun s1 =>
  if (s1.1 549 5) = 0 then
    if a1 = cI 0 then
      some (s1, (s1.1 549 24))
    else
    if a1 = cI 1 then
      some (s1, (s1.1 549 27))
    else
    if a1 = cI 2 then
      some (s1, (s1.1 549 33))
    else
    if a1 = cI 3 then
      some (s1, (s1.1 549 38))
    else
    if a1 = cI 4 then
      some (s1, (s1.1 549 43))
    else
    if a1 = cI 5 then
      some (s1, (s1.1 549 58))
    else
    if a1 = cI 6 then
      some (s1, (s1.1 549 87))
    else
    if a1 = cI 7 then
      some (s1, (s1.1 549 93))
    else
    if a1 = cI 8 then
      some (s1, (s1.1 549 101))
    else
    if a1 = cI 9 then
      some (s1, (s1.1 549 107))
    else
    if a1 = cI 10 then
      some (s1, (s1.1 549 111))
    else
    if a1 = cI 11 then
      some (s1, (s1.1 549 114))
    else
    if a1 = cI 12 then
      some (s1, (s1.1 549 119))
    else
    if a1 = cI 13 then
      some (s1, (s1.1 549 129))
    else
    if a1 = cI 14 then
      some (s1, (s1.1 549 134))
    else
    if a1 = cI 15 then
      some (s1, (s1.1 549 4))
    else
    if a1 = cI 16 then
      some (s1, (s1.1 549 10))
    else
    if a1 = cI 17 then
      some (s1, (s1.1 549 9))
    else
    some (s1, (cI (-102)))
  else
    some (s1, (cI (-105)))
def fPH_book (s : ev_M) : Option (ev_M × Int32) :=
  bd2 (fLog_stages s (cI 1) (cI 0) (cI 0) (cI 0) (cI 0) (cI 0) (cI 0)) fun s1 v2 =>
  if v2 = 0 then
    some (s1, (cI (-105)))
  else
    bd2 (fPH_act_1 s1) fun s3 v4 =>
    ltM (wI s3 1 1 (cI 0)) fun s5 =>
    some (s5, v4)
def fM_book (s : ev_M) : Option (ev_M × Int32) :=
  bd2 (fM_call s (cI 1)) fun s1 v2 =>
  some (s1, v2)
def fPH_forward (s : ev_M) (a1 : Int32) (a2 : Int32) (a3 : Int32) (a4 : Int32) : Option (ev_M × Int32) :=
  bd2 (fLog_stages s (cI 2) a1 a2 a3 a4 (cI 0) (cI 0)) fun s1 v2 =>
  if v2 = 0 then
    some (s1, (cI (-105)))
  else
    bd2 (fPH_act_1 s1) fun s3 v4 =>
    some (s3, v4)
def fM_call4 (s : ev_M) (a1 : Int32) (a2 : Int32) (a3 : Int32) (a4 : Int32) (a5 : Int32) : Option (ev_M × Int32) :=
  ltM (wI s 553 (ix (cI 3)) a5) fun s1 =>
  bd2 (fM_call3 s1 a1 a2 a3 a4) fun s2 v3 =>
  some (s2, v3)
def fM_forward (s : ev_M) (a1 : Int32) (a2 : Int32) (a3 : Int32) (a4 : Int32) : Option (ev_M × Int32) :=
  bd2 (fM_call4 s (cI 2) a1 a2 a3 a4) fun s1 v2 =>
  some (s1, v2)
def fPH_hold (s : ev_M) (a1 : Int32) (a2 : Int32) (a3 : Int32) : Option (ev_M × Int32) :=
  bd2 (fLog_stages s (cI 3) a1 a2 a3 (cI 0) (cI 0) (cI 0)) fun s1 v2 =>
  if v2 = 0 then
    some (s1, (cI (-105)))
  else
    bd2 (fPH_act_1 s1) fun s3 v4 =>
    some (s3, v4)
def fM_hold (s : ev_M) (a1 : Int32) (a2 : Int32) (a3 : Int32) : Option (ev_M × Int32) :=
  bd2 (fM_call3 s (cI 3) a1 a2 a3) fun s1 v2 =>
  some (s1, v2)
def fBook_askedGoal (s : ev_M) (a1 : Int32) (a2 : Int32) : Option (ev_M × Int32) :=
  bd1 (fBook_hasPoint s a1) fun v1 =>
  if v1 = 0 then
    some (s, (cI (-101)))
  else
    bd1 (fPH_outside s a2 (cI 0) (cI 99)) fun v2 =>
    if v2 = 0 then
      bd2 (fBook_goalFor s a1 a2) fun s3 v4 =>
      some (s3, v4)
    else
      some (s, (cI (-102)))
def fPH_effective (s : ev_M) (a1 : Int32) (a2 : Int32) : Option (ev_M × Int32) :=
  if (s.1 9 9) = 0 then
    bd2 (fBook_askedGoal s a1 a2) fun s1 v2 =>
    some (s1, v2)
  else
    some (s, (cI (-105)))
def fM_ask (s : ev_M) (a1 : Int32) (a2 : Int32) (a3 : Int32) : Option (ev_M × Int32) :=
  ltM (wI s 549 0 (cI 0)) fun s1 =>
  if (s1.1 549 5) = 0 then
    bd1 (fM_isPoint s1 a1) fun v2 =>
    if v2 = 0 then
      some (s1, (cI (-101)))
    else
      bd1 (fM_in s1 a2 (cI 0) (cI 99)) fun v3 =>
      if v3 = 0 then
        some (s1, (cI (-102)))
      else
        bd2 (fM_effectiveOf s1 a1 a2) fun s4 v5 =>
        if a3 = 0 then
          some (s4, v5)
        else
          some (s4, (s4.1 549 141))
  else
    some (s1, (cI (-105)))
def fM_effective (s : ev_M) (a1 : Int32) (a2 : Int32) : Option (ev_M × Int32) :=
  bd2 (fM_ask s a1 a2 (cI 0)) fun s1 v2 =>
  some (s1, v2)
def fPH_lastPoint_b35 (s : ev_M) (x3 : Int32) : Option (ev_M × Int32) :=
  some (s, x3)
def fPH_lastPoint (s : ev_M) (a1 : Int32) (a2 : Int32) : Option (ev_M × Int32) :=
  if (s.1 9 9) = 0 then
    bd2 (fBook_askedGoal s a1 a2) fun s1 v2 =>
    if v2 = (cI (-101)) then
      fPH_lastPoint_b35 s1 v2
    else
      if v2 = (cI (-102)) then
        fPH_lastPoint_b35 s1 v2
      else
        some (s1, (s1.1 30 15))
  else
    some (s, (cI (-105)))
def fM_lastPoint (s : ev_M) (a1 : Int32) (a2 : Int32) : Option (ev_M × Int32) :=
  bd2 (fM_ask s a1 a2 (cI 1)) fun s1 v2 =>
  some (s1, v2)
def fPH_find (s : ev_M) (a1 : Int32) : Option Int32 :=
  if (s.1 9 9) = 0 then
    bd1 (fBook_placeOf s a1) fun v1 =>
    some v1
  else
    some (cI (-105))
def fM_find (s : ev_M) (a1 : Int32) : Option (ev_M × Int32) :=
  ltM (wI s 549 0 (cI 0)) fun s1 =>
  if (s1.1 549 5) = 0 then
    bd1 (fM_placeWith s1 a1) fun v2 =>
    some (s1, v2)
  else
    some (s1, (cI (-105)))
def fRounds_roundOf (s : ev_M) (a1 : Int32) : Option Int32 :=
  if inb a1 120 = true then
  some (s.1 158 (ix a1))
  else none
def fBook_tellPoint (s : ev_M) (a1 : Int32) (a2 : Int32) : Option Int32 :=
  if a2 = cI 0 then
    if inb a1 120 = true then
    some (s.1 (44 + (ix (cI 0))) (ix a1))
    else none
  else
  if a2 = cI 1 then
    if inb a1 120 = true then
    some (s.1 (44 + (ix (cI 1))) (ix a1))
    else none
  else
  if a2 = cI 2 then
    bd1 (fBook_xOf s a1) fun v1 =>
    some v1
  else
  if a2 = cI 3 then
    bd1 (fBook_yOf s a1) fun v2 =>
    some v2
  else
  if a2 = cI 4 then
    bd1 (fBook_placeOfPoint s a1) fun v3 =>
    some v3
  else
  some (cI (-102))
def fPH_pointAt (s : ev_M) (a1 : Int32) (a2 : Int32) : Option Int32 :=
  if (s.1 9 9) = 0 then
    bd1 (fBook_hasPoint s a1) fun v1 =>
    if v1 = 0 then
      some (cI (-101))
    else
      if a2 = (cI 5) then
        bd1 (fRounds_roundOf s a1) fun v2 =>
        some v2
      else
        bd1 (fBook_tellPoint s a1 a2) fun v3 =>
        some v3
  else
    some (cI (-105))
def fM_pointAt (s : ev_M) (a1 : Int32) (a2 : Int32) : Option (ev_M × Int32) :=
  ltM (wI s 549 0 (cI 0)) fun s1 =>
  if (s1.1 549 5) = 0 then
    bd1 (fM_isPoint s1 a1) fun v2 =>
    if v2 = 0 then
      some (s1, (cI (-101)))
    else
      if a2 = cI 0 then
        if inb a1 120 = true then
        some (s1, (s1.1 569 (ix a1)))
        else none
      else
      if a2 = cI 1 then
        if inb a1 120 = true then
        some (s1, (s1.1 570 (ix a1)))
        else none
      else
      if a2 = cI 2 then
        bd1 (fM_xOf s1 a1) fun v3 =>
        some (s1, v3)
      else
      if a2 = cI 3 then
        bd1 (fM_yOf s1 a1) fun v4 =>
        some (s1, v4)
      else
      if a2 = cI 4 then
        bd1 (fM_placeOf s1 a1) fun v5 =>
        some (s1, v5)
      else
      if a2 = cI 5 then
        if inb a1 120 = true then
        some (s1, (s1.1 571 (ix a1)))
        else none
      else
      some (s1, (cI (-102)))
  else
    some (s1, (cI (-105)))
def fPH_sheet (s : ev_M) (a1 : Int32) : Option (ev_M × Int32) :=
  bd2 (fLog_stages s (cI 4) a1 (cI 0) (cI 0) (cI 0) (cI 0) (cI 0)) fun s1 v2 =>
  if v2 = 0 then
    some (s1, (cI (-105)))
  else
    bd2 (fPH_act_1 s1) fun s3 v4 =>
    ltM (wI s3 1 1 (cI 0)) fun s5 =>
    some (s5, v4)
def fM_sheet (s : ev_M) (a1 : Int32) : Option (ev_M × Int32) :=
  bd2 (fM_call1 s (cI 4) a1) fun s1 v2 =>
  some (s1, v2)
def fPH_read (s : ev_M) : Option Int32 :=
  if (s.1 9 9) = 0 then
    some (s.1 52 3)
  else
    some (cI (-105))
def fM_read (s : ev_M) : Option (ev_M × Int32) :=
  ltM (wI s 549 0 (cI 0)) fun s1 =>
  if (s1.1 549 5) = 0 then
    if (s1.1 549 48) = 0 then
      some (s1, (cI (-1)))
    else
      some (s1, (s1.1 549 50))
  else
    some (s1, (cI (-105)))
def fSheet_tellLine (s : ev_M) (a1 : Int32) (a2 : Int32) : Option Int32 :=
  bd1 (fPH_outside s a2 (cI 0) (cI 2)) fun v1 =>
  if v1 = 0 then
    bd1 (fPH_outside s a1 (cI 0) ((s.1 52 13) - (cI 1))) fun v2 =>
    if v2 = 0 then
      if inb a2 4 = true then
      if inb a1 10 = true then
      some (s.1 (63 + (ix a2)) (ix a1))
      else none
      else none
    else
      some (cI (-1))
  else
    some (cI (-102))
def fPH_textLine (s : ev_M) (a1 : Int32) (a2 : Int32) : Option Int32 :=
  if (s.1 9 9) = 0 then
    bd1 (fSheet_tellLine s a1 a2) fun v1 =>
    some v1
  else
    some (cI (-105))
def fM_textLine_b120 (k60 : ev_M → Int32 → Int32 → Int32 → Int32 → Int32 → Option (ev_M × Int32)) (s : ev_M) (x1 : Int32) (x2 : Int32) (x3 : Int32) (x5 : Int32) (y0 : Int32) : Option (ev_M × Int32) :=
  k60 s x1 x2 x3 y0 (x5 + cI 1)
def fM_textLine_b95 (k60 : ev_M → Int32 → Int32 → Int32 → Int32 → Int32 → Option (ev_M × Int32)) (s : ev_M) (x1 : Int32) (x2 : Int32) (x4 : Int32) (x5 : Int32) (y0 : Int32) : Option (ev_M × Int32) :=
  if inb x5 200 = true then
  if (s.1 578 (ix x5)) < x4 then
    if inb x5 200 = true then
    fM_textLine_b120 k60 s x1 x2 y0 x5 (s.1 578 (ix x5))
    else none
  else
    fM_textLine_b120 k60 s x1 x2 y0 x5 x4
  else none
def fM_textLine_h60 : Nat → ev_M → Int32 → Int32 → Int32 → Int32 → Int32 → Option (ev_M × Int32)
  | 0, _, _, _, _, _, _ => none
  | n + 1, s, x1, x2, x3, x4, x5 =>
    if inb (x1 + (cI 1)) 11 = true then
    if x5 < (s.1 577 (ix (x1 + (cI 1)))) then
      if inb x5 200 = true then
      if (s.1 579 (ix x5)) < x3 then
        if inb x5 200 = true then
        fM_textLine_b95 (fM_textLine_h60 n) s x1 x2 x4 x5 (s.1 579 (ix x5))
        else none
      else
        fM_textLine_b95 (fM_textLine_h60 n) s x1 x2 x4 x5 x3
      else none
    else
      if x2 = 0 then
        if inb (x1 + (cI 1)) 11 = true then
        if inb x1 11 = true then
        some (s, ((s.1 577 (ix (x1 + (cI 1)))) - (s.1 577 (ix x1))))
        else none
        else none
      else
        if x2 = (cI 1) then
          some (s, x3)
        else
          some (s, x4)
    else none
def fM_textLine (s : ev_M) (a1 : Int32) (a2 : Int32) : Option (ev_M × Int32) :=
  ltM (wI s 549 0 (cI 0)) fun s1 =>
  if (s1.1 549 5) = 0 then
    bd1 (fM_in s1 a2 (cI 0) (cI 2)) fun v2 =>
    if v2 = 0 then
      some (s1, (cI (-102)))
    else
      bd1 (fM_in s1 a1 (cI 0) ((s1.1 549 51) - (cI 1))) fun v3 =>
      if v3 = 0 then
        some (s1, (cI (-1)))
      else
        if inb a1 11 = true then
        ltI (s1.1 577 (ix a1)) fun v4 =>
        fM_textLine_h60 1048576 s1 a1 a2 (cI 4096) (cI 4096) v4
        else none
  else
    some (s1, (cI (-105)))
def fSheet_tellSign (s : ev_M) (a1 : Int32) (a2 : Int32) (a3 : Int32) : Option Int32 :=
  bd1 (fPH_outside s a3 (cI 0) (cI 7)) fun v1 =>
  if v1 = 0 then
    bd1 (fPH_outside s a1 (cI 0) ((s.1 52 13) - (cI 1))) fun v2 =>
    if v2 = 0 then
      if inb a1 10 = true then
      bd1 (fPH_outside s a2 (cI 0) ((s.1 (63 + (ix (cI 0))) (ix a1)) - (cI 1))) fun v3 =>
      if v3 = 0 then
        if inb a3 8 = true then
        if inb a1 10 = true then
        if inb ((s.1 (63 + (ix (cI 3))) (ix a1)) + a2) 200 = true then
        some (s.1 (68 + (ix a3)) (ix ((s.1 (63 + (ix (cI 3))) (ix a1)) + a2)))
        else none
        else none
        else none
      else
        some (cI (-1))
      else none
    else
      some (cI (-1))
  else
    some (cI (-102))
def fPH_sign (s : ev_M) (a1 : Int32) (a2 : Int32) (a3 : Int32) : Option Int32 :=
  if (s.1 9 9) = 0 then
    bd1 (fSheet_tellSign s a1 a2 a3) fun v1 =>
    some v1
  else
    some (cI (-105))
def fM_sign (s : ev_M) (a1 : Int32) (a2 : Int32) (a3 : Int32) : Option (ev_M × Int32) :=
  ltM (wI s 549 0 (cI 0)) fun s1 =>
  if (s1.1 549 5) = 0 then
    bd1 (fM_in s1 a3 (cI 0) (cI 7)) fun v2 =>
    if v2 = 0 then
      some (s1, (cI (-102)))
    else
      bd1 (fM_in s1 a1 (cI 0) ((s1.1 549 51) - (cI 1))) fun v3 =>
      if v3 = 0 then
        some (s1, (cI (-1)))
      else
        if inb (a1 + (cI 1)) 11 = true then
        if inb a1 11 = true then
        bd1 (fM_in s1 a2 (cI 0) (((s1.1 577 (ix (a1 + (cI 1)))) - (s1.1 577 (ix a1))) - (cI 1))) fun v4 =>
        if v4 = 0 then
          some (s1, (cI (-1)))
        else
          if inb a1 11 = true then
          ltI ((s1.1 577 (ix a1)) + a2) fun v5 =>
          if a3 = cI 0 then
            if inb v5 200 = true then
            some (s1, (s1.1 578 (ix v5)))
            else none
          else
          if a3 = cI 1 then
            if inb v5 200 = true then
            some (s1, (s1.1 579 (ix v5)))
            else none
          else
          if a3 = cI 2 then
            if inb v5 200 = true then
            some (s1, (s1.1 580 (ix v5)))
            else none
          else
          if a3 = cI 3 then
            if inb v5 200 = true then
            some (s1, (s1.1 581 (ix v5)))
            else none
          else
          if a3 = cI 4 then
            if inb v5 200 = true then
            some (s1, (s1.1 582 (ix v5)))
            else none
          else
          if a3 = cI 5 then
            if inb v5 200 = true then
            bd1 (fM_nearest s1 (s1.1 582 (ix v5)) (cI 0) (cI 10)) fun v6 =>
            some (s1, v6)
            else none
          else
          if a3 = cI 6 then
            if inb v5 200 = true then
            bd1 (fM_nearest s1 (s1.1 582 (ix v5)) (cI 10) (cI 36)) fun v7 =>
            some (s1, v7)
            else none
          else
          if inb a1 11 = true then
          bd1 (fM_beginsWord s1 v5 (s1.1 577 (ix a1))) fun v8 =>
          if v8 = 0 then
            some (s1, (cI 0))
          else
            some (s1, (cI 1))
          else none
          else none
        else none
        else none
  else
    some (s1, (cI (-105)))
def fPH_item (s : ev_M) (a1 : Int32) (a2 : Int32) (a3 : Int32) (a4 : Int32) (a5 : Int32) (a6 : Int32) : Option (ev_M × Int32) :=
  bd2 (fLog_stages s (cI 5) a1 a2 a3 a4 a5 a6) fun s1 v2 =>
  if v2 = 0 then
    some (s1, (cI (-105)))
  else
    bd2 (fPH_act_1 s1) fun s3 v4 =>
    some (s3, v4)
def fM_item (s : ev_M) (a1 : Int32) (a2 : Int32) (a3 : Int32) (a4 : Int32) (a5 : Int32) (a6 : Int32) : Option (ev_M × Int32) :=
  ltM (wI s 553 (ix (cI 4)) a5) fun s1 =>
  ltM (wI s1 553 (ix (cI 5)) a6) fun s2 =>
  bd2 (fM_call4 s2 (cI 5) a1 a2 a3 a4) fun s3 v4 =>
  some (s3, v4)
def fPH_address (s : ev_M) (a1 : Int32) (a2 : Int32) : Option (ev_M × Int32) :=
  bd2 (fLog_stages s (cI 6) a1 a2 (cI 0) (cI 0) (cI 0) (cI 0)) fun s1 v2 =>
  if v2 = 0 then
    some (s1, (cI (-105)))
  else
    bd2 (fPH_act_1 s1) fun s3 v4 =>
    some (s3, v4)
def fM_address (s : ev_M) (a1 : Int32) (a2 : Int32) : Option (ev_M × Int32) :=
  bd2 (fM_call2 s (cI 6) a1 a2) fun s1 v2 =>
  some (s1, v2)
def fPH_take (s : ev_M) (a1 : Int32) : Option (ev_M × Int32) :=
  bd2 (fLog_stages s (cI 7) a1 (cI 0) (cI 0) (cI 0) (cI 0) (cI 0)) fun s1 v2 =>
  if v2 = 0 then
    some (s1, (cI (-105)))
  else
    bd2 (fPH_act_1 s1) fun s3 v4 =>
    some (s3, v4)
def fM_take (s : ev_M) (a1 : Int32) : Option (ev_M × Int32) :=
  bd2 (fM_call1 s (cI 7) a1) fun s1 v2 =>
  some (s1, v2)
def fPH_clerk (s : ev_M) (a1 : Int32) (a2 : Int32) (a3 : Int32) : Option (ev_M × Int32) :=
  bd2 (fLog_stages s (cI 8) a1 a2 a3 (cI 0) (cI 0) (cI 0)) fun s1 v2 =>
  if v2 = 0 then
    some (s1, (cI (-105)))
  else
    bd2 (fPH_act_1 s1) fun s3 v4 =>
    some (s3, v4)
def fM_clerk (s : ev_M) (a1 : Int32) (a2 : Int32) (a3 : Int32) : Option (ev_M × Int32) :=
  bd2 (fM_call3 s (cI 8) a1 a2 a3) fun s1 v2 =>
  some (s1, v2)
def fPH_post (s : ev_M) (a1 : Int32) (a2 : Int32) : Option (ev_M × Int32) :=
  bd2 (fLog_stages s (cI 9) a1 a2 (cI 0) (cI 0) (cI 0) (cI 0)) fun s1 v2 =>
  if v2 = 0 then
    some (s1, (cI (-105)))
  else
    bd2 (fPH_act_1 s1) fun s3 v4 =>
    some (s3, v4)
def fM_post (s : ev_M) (a1 : Int32) (a2 : Int32) : Option (ev_M × Int32) :=
  bd2 (fM_call2 s (cI 9) a1 a2) fun s1 v2 =>
  some (s1, v2)
def fItems_tellAbout (s : ev_M) (a1 : Int32) (a2 : Int32) : Option (ev_M × Int32) :=
  bd1 (fPH_outside s a2 (cI 0) (cI 16)) fun v1 =>
  if v1 = 0 then
    if a2 = (cI 12) then
      bd2 (fItems_goalOf s a1) fun s2 v3 =>
      some (s2, v3)
    else
      if a2 = (cI 16) then
        bd1 (fItems_priceDue s a1) fun v4 =>
        bd1 (fItems_centsDue s a1) fun v5 =>
        some (s, (v4 + v5))
      else
        if inb a2 22 = true then
        if inb a1 300 = true then
        some (s, (s.1 (102 + (ix a2)) (ix a1)))
        else none
        else none
  else
    some (s, (cI (-102)))
def fPH_about (s : ev_M) (a1 : Int32) (a2 : Int32) : Option (ev_M × Int32) :=
  if (s.1 9 9) = 0 then
    bd1 (fItems_has s a1) fun v1 =>
    if v1 = 0 then
      some (s, (cI (-101)))
    else
      bd2 (fItems_tellAbout s a1 a2) fun s2 v3 =>
      some (s2, v3)
  else
    some (s, (cI (-105)))
def fM_about (s : ev_M) (a1 : Int32) (a2 : Int32) : Option (ev_M × Int32) :=
  ltM (wI s 549 0 (cI 0)) fun s1 =>
  if (s1.1 549 5) = 0 then
    bd1 (fM_isItem s1 a1) fun v2 =>
    if v2 = 0 then
      some (s1, (cI (-101)))
    else
      if a2 = cI 0 then
        if inb a1 300 = true then
        some (s1, (s1.1 583 (ix a1)))
        else none
      else
      if a2 = cI 1 then
        if inb a1 300 = true then
        some (s1, (s1.1 584 (ix a1)))
        else none
      else
      if a2 = cI 2 then
        if inb a1 300 = true then
        some (s1, (s1.1 585 (ix a1)))
        else none
      else
      if a2 = cI 3 then
        if inb a1 300 = true then
        some (s1, (s1.1 586 (ix a1)))
        else none
      else
      if a2 = cI 4 then
        if inb a1 300 = true then
        some (s1, (s1.1 587 (ix a1)))
        else none
      else
      if a2 = cI 5 then
        if inb a1 300 = true then
        some (s1, (s1.1 588 (ix a1)))
        else none
      else
      if a2 = cI 6 then
        if inb a1 300 = true then
        some (s1, (s1.1 589 (ix a1)))
        else none
      else
      if a2 = cI 7 then
        if inb a1 300 = true then
        some (s1, (s1.1 590 (ix a1)))
        else none
      else
      if a2 = cI 8 then
        if inb a1 300 = true then
        some (s1, (s1.1 591 (ix a1)))
        else none
      else
      if a2 = cI 9 then
        if inb a1 300 = true then
        some (s1, (s1.1 593 (ix a1)))
        else none
      else
      if a2 = cI 10 then
        if inb a1 300 = true then
        if (s1.1 599 (ix a1)) = 0 then
          some (s1, (cI 0))
        else
          some (s1, (cI 1))
        else none
      else
      if a2 = cI 11 then
        if inb a1 300 = true then
        some (s1, (s1.1 600 (ix a1)))
        else none
      else
      if a2 = cI 12 then
        bd2 (fM_goalOf s1 a1) fun s3 v4 =>
        some (s3, v4)
      else
      if a2 = cI 13 then
        if inb a1 300 = true then
        some (s1, (s1.1 601 (ix a1)))
        else none
      else
      if a2 = cI 14 then
        if inb a1 300 = true then
        some (s1, (s1.1 602 (ix a1)))
        else none
      else
      if a2 = cI 15 then
        if inb a1 300 = true then
        some (s1, (s1.1 597 (ix a1)))
        else none
      else
      if a2 = cI 16 then
        bd1 (fM_priceDue s1 a1) fun v5 =>
        bd1 (fM_centsDue s1 a1) fun v6 =>
        some (s1, (v5 + v6))
      else
      some (s1, (cI (-102)))
  else
    some (s1, (cI (-105)))
def fBars_set_h5 : Nat → ev_M → Int32 → Int32 → Int32 → Option ev_M
  | 0, _, _, _, _ => none
  | n + 1, s, x1, x3, x4 =>
    if x4 < 0 then
      some s
    else
      if (x1 + x4) < (cI 15) then
        if inb (x1 + x4) 15 = true then
        ltM (wI s 8 (ix (x1 + x4)) (x3 &&& (cI 15))) fun s1 =>
        ltI (x3 >>> ((cI 4) &&& 31)) fun v2 =>
        (fBars_set_h5 n) s1 x1 v2 (x4 + cI (-1))
        else none
      else
        some s
def fBars_set (s : ev_M) (a1 : Int32) (a2 : Int32) (a3 : Int32) : Option ev_M :=
  ltI (a2 - (cI 1)) fun v3 =>
  fBars_set_h5 1048576 s a1 a3 v3
def fBars_times_b8 (s : ev_M) : Option Int32 :=
  some (cI 0)
def fBars_times (s : ev_M) (a0 : Int32) (a1 : Int32) : Option Int32 :=
  if a0 = 0 then
    fBars_times_b8 s
  else
    if a1 = 0 then
      fBars_times_b8 s
    else
      if inb (a0 &&& (cI 15)) 16 = true then
      if inb (a1 &&& (cI 15)) 16 = true then
      if (cI 15) = 0 then none else
      if inb (irem ((s.1 1001 (ix (a0 &&& (cI 15)))) + (s.1 1001 (ix (a1 &&& (cI 15))))) (cI 15)) 15 = true then
      some (s.1 1002 (ix (irem ((s.1 1001 (ix (a0 &&& (cI 15)))) + (s.1 1001 (ix (a1 &&& (cI 15))))) (cI 15))))
      else none
      else none
      else none
def fBars_close_b80 (k24 : ev_M → Int32 → Option ev_M) (k47 : ev_M → Int32 → Int32 → Int32 → Option ev_M) (s : ev_M) (x1 : Int32) (x2 : Int32) (x3 : Int32) (y0 : Int32) : Option ev_M :=
  if inb x3 4 = true then
  bd1 (fBars_times s x2 (s.1 1000 (ix x3))) fun v1 =>
  if inb ((cI 11) + x3) 15 = true then
  ltM (wI s 8 (ix ((cI 11) + x3)) (y0 ^^^ v1)) fun s2 =>
  k47 s2 x1 x2 (x3 + cI 1)
  else none
  else none
def fBars_close_h47 (k24 : ev_M → Int32 → Option ev_M) : Nat → ev_M → Int32 → Int32 → Int32 → Option ev_M
  | 0, _, _, _, _ => none
  | n + 1, s, x1, x2, x3 =>
    if x3 < (cI 4) then
      if (x3 + (cI 1)) < (cI 4) then
        if inb (((cI 11) + x3) + (cI 1)) 15 = true then
        fBars_close_b80 k24 (fBars_close_h47 k24 n) s x1 x2 x3 (s.1 8 (ix (((cI 11) + x3) + (cI 1))))
        else none
      else
        fBars_close_b80 k24 (fBars_close_h47 k24 n) s x1 x2 x3 (cI 0)
    else
      k24 s (x1 + cI 1)
def fBars_close_h24 : Nat → ev_M → Int32 → Option ev_M
  | 0, _, _ => none
  | n + 1, s, x1 =>
    if x1 < (cI 11) then
      if inb x1 15 = true then
      ltI ((s.1 8 (ix x1)) ^^^ (s.1 8 (ix (cI 11)))) fun v3 =>
      fBars_close_h47 (fBars_close_h24 n) 1048576 s x1 v3 (cI 0)
      else none
    else
      some s
def fBars_close_h3 : Nat → ev_M → Int32 → Option ev_M
  | 0, _, _ => none
  | n + 1, s, x1 =>
    if x1 < (cI 15) then
      if inb x1 15 = true then
      ltM (wI s 8 (ix x1) (cI 0)) fun s4 =>
      (fBars_close_h3 n) s4 (x1 + cI 1)
      else none
    else
      fBars_close_h24 1048576 s (cI 0)
def fBars_close (s : ev_M) : Option ev_M :=
  fBars_close_h3 1048576 s (cI 11)
def fItems_drawBars_7 (s : ev_M) (a1 : Int32) : Option ev_M :=
  bd1 (fBars_set s (cI 0) (cI 3) a1) fun s1 =>
  if inb a1 300 = true then
  bd1 (fBars_set s1 (cI 3) (cI 1) (s1.1 (102 + (ix (cI 1))) (ix a1))) fun s2 =>
  if inb a1 300 = true then
  bd1 (fBars_set s2 (cI 4) (cI 3) ((s2.1 (102 + (ix (cI 7))) (ix a1)) + (cI 1))) fun s3 =>
  if inb a1 300 = true then
  bd1 (fBars_set s3 (cI 7) (cI 1) (s3.1 (102 + (ix (cI 3))) (ix a1))) fun s4 =>
  if inb a1 300 = true then
  bd1 (fBars_set s4 (cI 8) (cI 3) (s4.1 (102 + (ix (cI 2))) (ix a1))) fun s5 =>
  bd1 (fBars_close s5) fun s6 =>
  some s6
  else none
  else none
  else none
  else none
def fPH_bar (s : ev_M) (a1 : Int32) (a2 : Int32) : Option (ev_M × Int32) :=
  if (s.1 9 9) = 0 then
    bd1 (fItems_has s a1) fun v1 =>
    if v1 = 0 then
      some (s, (cI (-101)))
    else
      bd1 (fPH_outside s a2 (cI 0) (cI 14)) fun v2 =>
      if v2 = 0 then
        bd1 (fItems_drawBars_7 s a1) fun s3 =>
        if inb a2 15 = true then
        some (s3, (s3.1 8 (ix a2)))
        else none
      else
        some (s, (cI (-102)))
  else
    some (s, (cI (-105)))
def fM_times_b43 (s : ev_M) (k4 : Int32 → Int32 → Int32 → Int32 → Option Int32) (x0 : Int32) (x1 : Int32) (x3 : Int32) (y0 : Int32) : Option Int32 :=
  k4 x0 x1 y0 (x3 + cI (-1))
def fM_times_b26 (s : ev_M) (k4 : Int32 → Int32 → Int32 → Int32 → Option Int32) (x0 : Int32) (x1 : Int32) (x3 : Int32) (y0 : Int32) : Option Int32 :=
  if ((x1 >>> (x3 &&& 31)) &&& (cI 1)) = (cI 1) then
    fM_times_b43 s k4 x0 x1 x3 (y0 ^^^ x0)
  else
    fM_times_b43 s k4 x0 x1 x3 y0
def fM_times_h4 (s : ev_M) : Nat → Int32 → Int32 → Int32 → Int32 → Option Int32
  | 0, _, _, _, _ => none
  | n + 1, x0, x1, x2, x3 =>
    if x3 < 0 then
      some x2
    else
      ltI (x2 <<< ((cI 1) &&& 31)) fun v1 =>
      if v1 ≤ (cI 15) then
        fM_times_b26 s (fM_times_h4 s n) x0 x1 x3 v1
      else
        fM_times_b26 s (fM_times_h4 s n) x0 x1 x3 (v1 ^^^ (cI 19))
def fM_times (s : ev_M) (a0 : Int32) (a1 : Int32) : Option Int32 :=
  fM_times_h4 s 1048576 a0 a1 (cI 0) (cI 3)
def fM_bars_h162 : Nat → ev_M → Int32 → Int32 → Int32 → Int32 → Int32 → Option ev_M
  | 0, _, _, _, _, _, _ => none
  | n + 1, s, x4, x5, x6, x7, x8 =>
    if x8 < (cI 11) then
      if inb x8 15 = true then
      ltI (x4 ^^^ (s.1 660 (ix x8))) fun v1 =>
      bd1 (fM_times s v1 (cI 13)) fun v2 =>
      ltI (x5 ^^^ v2) fun v3 =>
      bd1 (fM_times s v1 (cI 12)) fun v4 =>
      ltI (x6 ^^^ v4) fun v5 =>
      bd1 (fM_times s v1 (cI 8)) fun v6 =>
      ltI (x7 ^^^ v6) fun v7 =>
      bd1 (fM_times s v1 (cI 7)) fun v8 =>
      (fM_bars_h162 n) s v3 v5 v7 v8 (x8 + cI 1)
      else none
    else
      ltM (wI s 660 (ix (cI 11)) x4) fun s9 =>
      ltM (wI s9 660 (ix (cI 12)) x5) fun s10 =>
      ltM (wI s10 660 (ix (cI 13)) x6) fun s11 =>
      ltM (wI s11 660 (ix (cI 14)) x7) fun s12 =>
      some s12
def fM_bars_h126 : Nat → ev_M → Int32 → Option ev_M
  | 0, _, _ => none
  | n + 1, s, x4 =>
    if x4 < (cI 15) then
      if inb x4 15 = true then
      ltM (wI s 660 (ix x4) (cI 0)) fun s13 =>
      (fM_bars_h126 n) s13 (x4 + cI 1)
      else none
    else
      fM_bars_h162 1048576 s (cI 0) (cI 0) (cI 0) (cI 0) (cI 0)
def fM_bars_h23 : Nat → ev_M → Int32 → Int32 → Int32 → Int32 → Option ev_M
  | 0, _, _, _, _, _ => none
  | n + 1, s, x1, x2, x3, x4 =>
    if x4 < (cI 3) then
      if inb x4 15 = true then
      ltM (wI s 660 (ix x4) ((x1 >>> (((cI 8) - ((cI 4) * x4)) &&& 31)) &&& (cI 15))) fun s14 =>
      if inb ((cI 4) + x4) 15 = true then
      ltM (wI s14 660 (ix ((cI 4) + x4)) ((x2 >>> (((cI 8) - ((cI 4) * x4)) &&& 31)) &&& (cI 15))) fun s15 =>
      if inb ((cI 8) + x4) 15 = true then
      ltM (wI s15 660 (ix ((cI 8) + x4)) ((x3 >>> (((cI 8) - ((cI 4) * x4)) &&& 31)) &&& (cI 15))) fun s16 =>
      (fM_bars_h23 n) s16 x1 x2 x3 (x4 + cI 1)
      else none
      else none
      else none
    else
      if inb x1 300 = true then
      ltM (wI s 660 (ix (cI 3)) (s.1 584 (ix x1))) fun s17 =>
      if inb x1 300 = true then
      ltM (wI s17 660 (ix (cI 7)) (s17.1 586 (ix x1))) fun s18 =>
      fM_bars_h126 1048576 s18 (cI 11)
      else none
      else none
def fM_bars (s : ev_M) (a1 : Int32) : Option ev_M :=
  if inb a1 300 = true then
  ltI ((s.1 590 (ix a1)) + (cI 1)) fun v19 =>
  if inb a1 300 = true then
  if (cI 4096) = 0 then none else
  ltI (irem (s.1 585 (ix a1)) (cI 4096)) fun v20 =>
  fM_bars_h23 1048576 s a1 v19 v20 (cI 0)
  else none
  else none
def fM_bar (s : ev_M) (a1 : Int32) (a2 : Int32) : Option (ev_M × Int32) :=
  ltM (wI s 549 0 (cI 0)) fun s1 =>
  if (s1.1 549 5) = 0 then
    bd1 (fM_isItem s1 a1) fun v2 =>
    if v2 = 0 then
      some (s1, (cI (-101)))
    else
      bd1 (fM_in s1 a2 (cI 0) (cI 14)) fun v3 =>
      if v3 = 0 then
        some (s1, (cI (-102)))
      else
        bd1 (fM_bars s1 a1) fun s4 =>
        if inb a2 15 = true then
        some (s4, (s4.1 660 (ix a2)))
        else none
  else
    some (s1, (cI (-105)))
def fBars_sumsOf_h4 (s : ev_M) : Nat → Int32 → Int32 → Int32 → Int32 → Option Int32
  | 0, _, _, _, _ => none
  | n + 1, x0, x1, x2, x3 =>
    if x3 ≤ (cI 4) then
      if (cI 15) = 0 then none else
      if inb (irem (x3 * ((cI 14) - x0)) (cI 15)) 15 = true then
      bd1 (fBars_times s x1 (s.1 1002 (ix (irem (x3 * ((cI 14) - x0)) (cI 15))))) fun v1 =>
      ltI ((x2 <<< ((cI 4) &&& 31)) ||| v1) fun v2 =>
      (fBars_sumsOf_h4 s n) x0 x1 v2 (x3 + cI 1)
      else none
    else
      some x2
def fBars_sumsOf (s : ev_M) (a0 : Int32) (a1 : Int32) : Option Int32 :=
  fBars_sumsOf_h4 s 1048576 a0 a1 (cI 0) (cI 1)
def fMath_floorMod (s : ev_M) (a0 : Int32) (a1 : Int32) : Option Int32 :=
  if a1 = 0 then none else
  ltI (irem a0 a1) fun v1 =>
  if (a0 ^^^ a1) < 0 then
    if v1 = 0 then
      some v1
    else
      some (v1 + a1)
  else
    some v1
def fBars_mendsOne (s : ev_M) (a1 : Int32) : Option (ev_M × Int32) :=
  ltI ((a1 >>> ((cI 12) &&& 31)) &&& (cI 15)) fun v1 =>
  ltI ((a1 >>> ((cI 8) &&& 31)) &&& (cI 15)) fun v2 =>
  if v1 = 0 then
    some (s, (cI 0))
  else
    if v2 = 0 then
      some (s, (cI 0))
    else
      if inb v2 16 = true then
      if inb v1 16 = true then
      bd1 (fMath_floorMod s ((s.1 1001 (ix v2)) - (s.1 1001 (ix v1))) (cI 15)) fun v3 =>
      if inb v1 16 = true then
      bd1 (fMath_floorMod s ((s.1 1001 (ix v1)) - v3) (cI 15)) fun v4 =>
      if inb v4 15 = true then
      ltI (s.1 1002 (ix v4)) fun v5 =>
      ltI ((cI 14) - v3) fun v6 =>
      bd1 (fBars_sumsOf s v6 v5) fun v7 =>
      if v7 = a1 then
        if inb v6 15 = true then
        if inb v6 15 = true then
        ltM (wI s 8 (ix v6) ((s.1 8 (ix v6)) ^^^ v5)) fun s8 =>
        some (s8, (cI 1))
        else none
        else none
      else
        some (s, (cI 0))
      else none
      else none
      else none
      else none
def fBars_mendsTwo_h10 (k2 : ev_M → Int32 → Int32 → Option (ev_M × Int32)) : Nat → ev_M → Int32 → Int32 → Int32 → Option (ev_M × Int32)
  | 0, _, _, _, _ => none
  | n + 1, s, x1, x2, x3 =>
    if x3 < (cI 16) then
      bd1 (fBars_sumsOf s x2 x3) fun v1 =>
      bd2 (fBars_mendsOne s (x1 ^^^ v1)) fun s2 v3 =>
      if v3 = 0 then
        (fBars_mendsTwo_h10 k2 n) s2 x1 x2 (x3 + cI 1)
      else
        if inb x2 15 = true then
        if inb x2 15 = true then
        ltM (wI s2 8 (ix x2) ((s2.1 8 (ix x2)) ^^^ x3)) fun s4 =>
        some (s4, (cI 1))
        else none
        else none
    else
      k2 s x1 (x2 + cI 1)
def fBars_mendsTwo_h2 : Nat → ev_M → Int32 → Int32 → Option (ev_M × Int32)
  | 0, _, _, _ => none
  | n + 1, s, x1, x2 =>
    if x2 < (cI 15) then
      fBars_mendsTwo_h10 (fBars_mendsTwo_h2 n) 1048576 s x1 x2 (cI 1)
    else
      some (s, (cI 0))
def fBars_mendsTwo (s : ev_M) (a1 : Int32) : Option (ev_M × Int32) :=
  fBars_mendsTwo_h2 1048576 s a1 (cI 0)
def fBars_mends_b63 (s : ev_M) (y1 : Int32) : Option (ev_M × Int32) :=
  ltM (wI s 7 1 y1) fun s1 =>
  if (s1.1 7 1) = (cI (-1)) then
    some (s1, (cI 0))
  else
    some (s1, (cI 1))
def fBars_mends_h4 : Nat → ev_M → Int32 → Int32 → Option (ev_M × Int32)
  | 0, _, _, _ => none
  | n + 1, s, x1, x2 =>
    if x2 < (cI 15) then
      if inb x2 15 = true then
      bd1 (fBars_sumsOf s x2 (s.1 8 (ix x2))) fun v2 =>
      ltI (x1 ^^^ v2) fun v3 =>
      (fBars_mends_h4 n) s v3 (x2 + cI 1)
      else none
    else
      if x1 = 0 then
        fBars_mends_b63 s (cI 0)
      else
        bd2 (fBars_mendsOne s x1) fun s4 v5 =>
        if v5 = 0 then
          bd2 (fBars_mendsTwo s4 x1) fun s6 v7 =>
          if v7 = 0 then
            fBars_mends_b63 s6 (cI (-1))
          else
            fBars_mends_b63 s6 (cI 2)
        else
          fBars_mends_b63 s4 (cI 1)
def fBars_mends (s : ev_M) : Option (ev_M × Int32) :=
  fBars_mends_h4 1048576 s (cI 0) (cI 0)
def fBars_number (s : ev_M) : Option Int32 :=
  some ((((s.1 8 (ix (cI 0))) <<< ((cI 8) &&& 31)) ||| ((s.1 8 (ix (cI 1))) <<< ((cI 4) &&& 31))) ||| (s.1 8 (ix (cI 2))))
def fBars_takeFrom_1_h2 : Nat → ev_M → Int32 → Option ev_M
  | 0, _, _ => none
  | n + 1, s, x2 =>
    if x2 < (cI 15) then
      bd1 (fTape_byteAt_1 s x2) fun v1 =>
      if inb x2 15 = true then
      ltM (wI s 8 (ix x2) (v1 &&& (cI 15))) fun s2 =>
      (fBars_takeFrom_1_h2 n) s2 (x2 + cI 1)
      else none
    else
      some s
def fBars_takeFrom_1 (s : ev_M) : Option ev_M :=
  fBars_takeFrom_1_h2 1048576 s (cI 0)
def fPH_scan_b46 (s : ev_M) (x1 : Int32) : Option (ev_M × Int32) :=
  ltM (wI s 1 1 (cI 0)) fun s1 =>
  if x1 = 0 then
    some (s1, (cI (-102)))
  else
    bd2 (fBars_mends s1) fun s2 v3 =>
    if v3 = 0 then
      some (s2, (cI (-1)))
    else
      bd1 (fBars_number s2) fun v4 =>
      bd1 (fItems_has s2 v4) fun v5 =>
      if v5 = 0 then
        some (s2, (cI (-1)))
      else
        bd1 (fBars_number s2) fun v6 =>
        some (s2, v6)
def fPH_scan_b30 (s : ev_M) (y0 : Int32) : Option (ev_M × Int32) :=
  if y0 = 0 then
    fPH_scan_b46 s y0
  else
    bd1 (fBars_takeFrom_1 s) fun s7 =>
    fPH_scan_b46 s7 y0
def fPH_scan (s : ev_M) : Option (ev_M × Int32) :=
  if (s.1 9 9) = 0 then
    if (s.1 1 1) = (cI 15) then
      fPH_scan_b30 s (cI 1)
    else
      fPH_scan_b30 s (cI 0)
  else
    some (s, (cI (-105)))
def fM_mends_b46 (s : ev_M) (k5 : Int32 → Int32 → Int32 → Int32 → Option Int32) (x1 : Int32) (x2 : Int32) (x4 : Int32) (y0 : Int32) : Option Int32 :=
  k5 x1 x2 y0 (x4 + cI 1)
def fM_mends_b45 (s : ev_M) (k5 : Int32 → Int32 → Int32 → Int32 → Option Int32) (x1 : Int32) (x2 : Int32) (x4 : Int32) : Option Int32 :=
  fM_mends_b46 s k5 x1 x2 x4 (cI 0)
def fM_mends_h5 (s : ev_M) : Nat → Int32 → Int32 → Int32 → Int32 → Option Int32
  | 0, _, _, _, _ => none
  | n + 1, x1, x2, x3, x4 =>
    if x4 < (cI 4) then
      if x3 = 0 then
        fM_mends_b45 s (fM_mends_h5 s n) x1 x2 x4
      else
        if inb (((cI 15) * x4) + x1) 60 = true then
        bd1 (fM_times s x2 (s.1 663 (ix (((cI 15) * x4) + x1)))) fun v1 =>
        if inb x4 4 = true then
        if v1 = (s.1 662 (ix x4)) then
          fM_mends_b46 s (fM_mends_h5 s n) x1 x2 x4 (cI 1)
        else
          fM_mends_b45 s (fM_mends_h5 s n) x1 x2 x4
        else none
        else none
    else
      if bz x3 = true then some x3 else none
def fM_mends (s : ev_M) (a1 : Int32) (a2 : Int32) : Option Int32 :=
  fM_mends_h5 s 1048576 a1 a2 (cI 1) (cI 0)
def fM_change_h16 : Nat → ev_M → Int32 → Int32 → Int32 → Option ev_M
  | 0, _, _, _, _ => none
  | n + 1, s, x1, x2, x3 =>
    if x3 < (cI 4) then
      if inb x3 4 = true then
      if inb (((cI 15) * x3) + x1) 60 = true then
      bd1 (fM_times s x2 (s.1 663 (ix (((cI 15) * x3) + x1)))) fun v1 =>
      if inb x3 4 = true then
      ltM (wI s 662 (ix x3) ((s.1 662 (ix x3)) ^^^ v1)) fun s2 =>
      (fM_change_h16 n) s2 x1 x2 (x3 + cI 1)
      else none
      else none
      else none
    else
      some s
def fM_change (s : ev_M) (a1 : Int32) (a2 : Int32) : Option ev_M :=
  if inb a1 15 = true then
  if inb a1 15 = true then
  ltM (wI s 660 (ix a1) ((s.1 660 (ix a1)) ^^^ a2)) fun s3 =>
  fM_change_h16 1048576 s3 a1 a2 (cI 0)
  else none
  else none
def fM_mendOne_h11 (k2 : ev_M → Int32 → Int32 → Option (ev_M × Int32)) : Nat → ev_M → Int32 → Int32 → Int32 → Option (ev_M × Int32)
  | 0, _, _, _, _ => none
  | n + 1, s, x2, x3, x4 =>
    if x4 < (cI 16) then
      bd1 (fM_mends s x3 x4) fun v1 =>
      if v1 = 0 then
        (fM_mendOne_h11 k2 n) s x2 x3 (x4 + cI 1)
      else
        bd1 (fM_change s x3 x4) fun s2 =>
        ltM (wI s2 549 161 (x2 + (cI 1))) fun s3 =>
        some (s3, (cI 1))
    else
      k2 s x2 (x3 + cI 1)
def fM_mendOne_h2 : Nat → ev_M → Int32 → Int32 → Option (ev_M × Int32)
  | 0, _, _, _ => none
  | n + 1, s, x2, x3 =>
    if x3 < (cI 15) then
      fM_mendOne_h11 (fM_mendOne_h2 n) 1048576 s x2 x3 (cI 1)
    else
      some (s, (cI 0))
def fM_mendOne (s : ev_M) (a1 : Int32) (a2 : Int32) : Option (ev_M × Int32) :=
  fM_mendOne_h2 1048576 s a2 a1
def fM_mendTwo_h10 (k2 : ev_M → Int32 → Option (ev_M × Int32)) : Nat → ev_M → Int32 → Int32 → Option (ev_M × Int32)
  | 0, _, _, _ => none
  | n + 1, s, x1, x2 =>
    if x2 < (cI 16) then
      bd1 (fM_change s x1 x2) fun s1 =>
      bd2 (fM_mendOne s1 (x1 + (cI 1)) (cI 1)) fun s2 v3 =>
      if v3 = 0 then
        bd1 (fM_change s2 x1 x2) fun s4 =>
        (fM_mendTwo_h10 k2 n) s4 x1 (x2 + cI 1)
      else
        some (s2, (cI 1))
    else
      k2 s (x1 + cI 1)
def fM_mendTwo_h2 : Nat → ev_M → Int32 → Option (ev_M × Int32)
  | 0, _, _ => none
  | n + 1, s, x1 =>
    if x1 < (cI 15) then
      fM_mendTwo_h10 (fM_mendTwo_h2 n) 1048576 s x1 (cI 1)
    else
      some (s, (cI 0))
def fM_mendTwo (s : ev_M) : Option (ev_M × Int32) :=
  fM_mendTwo_h2 1048576 s (cI 0)
def fM_sumOf_h4 (s : ev_M) : Nat → Int32 → Int32 → Int32 → Option Int32
  | 0, _, _, _ => none
  | n + 1, x1, x2, x3 =>
    if x3 < (cI 15) then
      if inb x1 4 = true then
      bd1 (fM_times s x2 (s.1 661 (ix x1))) fun v1 =>
      if inb x3 15 = true then
      ltI (v1 ^^^ (s.1 660 (ix x3))) fun v2 =>
      (fM_sumOf_h4 s n) x1 v2 (x3 + cI 1)
      else none
      else none
    else
      some x2
def fM_sumOf (s : ev_M) (a1 : Int32) : Option Int32 :=
  fM_sumOf_h4 s 1048576 a1 (cI 0) (cI 0)
def fM_scan_b101 (k67 : ev_M → Int32 → Int32 → Option (ev_M × Int32)) (s : ev_M) (x3 : Int32) (y0 : Int32) : Option (ev_M × Int32) :=
  k67 s y0 (x3 + cI 1)
def fM_scan_b100 (k67 : ev_M → Int32 → Int32 → Option (ev_M × Int32)) (s : ev_M) (x3 : Int32) : Option (ev_M × Int32) :=
  fM_scan_b101 k67 s x3 (cI 0)
def fM_scan_b146 (s : ev_M) (y0 : Int32) : Option (ev_M × Int32) :=
  ltI ((((s.1 660 (ix (cI 0))) <<< ((cI 8) &&& 31)) ||| ((s.1 660 (ix (cI 1))) <<< ((cI 4) &&& 31))) ||| (s.1 660 (ix (cI 2)))) fun v1 =>
  if y0 = 0 then
    some (s, (cI (-1)))
  else
    if v1 < (s.1 549 58) then
      some (s, v1)
    else
      some (s, (cI (-1)))
def fM_scan_b141 (s : ev_M) : Option (ev_M × Int32) :=
  fM_scan_b146 s (cI 1)
def fM_scan_b118 (s : ev_M) (x2 : Int32) (y1 : Int32) : Option (ev_M × Int32) :=
  ltM (wI s 549 161 y1) fun s2 =>
  if x2 = 0 then
    bd2 (fM_mendOne s2 (cI 0) (cI 0)) fun s3 v4 =>
    if v4 = 0 then
      bd2 (fM_mendTwo s3) fun s5 v6 =>
      if v6 = 0 then
        fM_scan_b146 s5 (cI 0)
      else
        fM_scan_b141 s5
    else
      fM_scan_b141 s3
  else
    fM_scan_b141 s2
def fM_scan_h67 : Nat → ev_M → Int32 → Int32 → Option (ev_M × Int32)
  | 0, _, _, _ => none
  | n + 1, s, x2, x3 =>
    if x3 < (cI 4) then
      bd1 (fM_sumOf s x3) fun v7 =>
      if inb x3 4 = true then
      ltM (wI s 662 (ix x3) v7) fun s8 =>
      if x2 = 0 then
        fM_scan_b100 (fM_scan_h67 n) s8 x3
      else
        if inb x3 4 = true then
        if (s8.1 662 (ix x3)) = 0 then
          fM_scan_b101 (fM_scan_h67 n) s8 x3 (cI 1)
        else
          fM_scan_b100 (fM_scan_h67 n) s8 x3
        else none
      else none
    else
      if x2 = 0 then
        fM_scan_b118 s x2 (cI (-1))
      else
        fM_scan_b118 s x2 (cI 0)
def fM_scan_h36 : Nat → ev_M → Int32 → Option (ev_M × Int32)
  | 0, _, _ => none
  | n + 1, s, x2 =>
    if x2 < (cI 15) then
      if inb x2 4096 = true then
      if inb x2 15 = true then
      ltM (wI s 660 (ix x2) ((s.1 550 (ix x2)) &&& (cI 15))) fun s9 =>
      (fM_scan_h36 n) s9 (x2 + cI 1)
      else none
      else none
    else
      fM_scan_h67 1048576 s (cI 1) (cI 0)
def fM_scan (s : ev_M) : Option (ev_M × Int32) :=
  ltM (wI s 549 0 (cI 0)) fun s10 =>
  if (s10.1 549 5) = 0 then
    ltI (s10.1 549 2) fun v11 =>
    ltM (wI s10 549 2 (cI 0)) fun s12 =>
    if v11 = (cI 15) then
      fM_scan_h36 1048576 s12 (cI 0)
    else
      some (s12, (cI (-102)))
  else
    some (s10, (cI (-105)))
def fPH_mended (s : ev_M) : Option Int32 :=
  if (s.1 9 9) = 0 then
    some (s.1 7 1)
  else
    some (cI (-105))
def fM_mended (s : ev_M) : Option (ev_M × Int32) :=
  ltM (wI s 549 0 (cI 0)) fun s1 =>
  if (s1.1 549 5) = 0 then
    some (s1, (s1.1 549 161))
  else
    some (s1, (cI (-105)))
def fPH_machine (s : ev_M) (a1 : Int32) (a2 : Int32) (a3 : Int32) (a4 : Int32) : Option (ev_M × Int32) :=
  bd2 (fLog_stages s (cI 10) a1 a2 a3 a4 (cI 0) (cI 0)) fun s1 v2 =>
  if v2 = 0 then
    some (s1, (cI (-105)))
  else
    bd2 (fPH_act_1 s1) fun s3 v4 =>
    some (s3, v4)
def fM_machine (s : ev_M) (a1 : Int32) (a2 : Int32) (a3 : Int32) (a4 : Int32) : Option (ev_M × Int32) :=
  bd2 (fM_call4 s (cI 10) a1 a2 a3 a4) fun s1 v2 =>
  some (s1, v2)
def fPH_round (s : ev_M) (a1 : Int32) (a2 : Int32) (a3 : Int32) : Option (ev_M × Int32) :=
  bd2 (fLog_stages s (cI 11) a1 a2 a3 (cI 0) (cI 0) (cI 0)) fun s1 v2 =>
  if v2 = 0 then
    some (s1, (cI (-105)))
  else
    bd2 (fPH_act_1 s1) fun s3 v4 =>
    some (s3, v4)
def fM_round (s : ev_M) (a1 : Int32) (a2 : Int32) (a3 : Int32) : Option (ev_M × Int32) :=
  bd2 (fM_call3 s (cI 11) a1 a2 a3) fun s1 v2 =>
  some (s1, v2)
def fPH_assign (s : ev_M) (a1 : Int32) (a2 : Int32) : Option (ev_M × Int32) :=
  bd2 (fLog_stages s (cI 12) a1 a2 (cI 0) (cI 0) (cI 0) (cI 0)) fun s1 v2 =>
  if v2 = 0 then
    some (s1, (cI (-105)))
  else
    bd2 (fPH_act_1 s1) fun s3 v4 =>
    some (s3, v4)
def fM_assign (s : ev_M) (a1 : Int32) (a2 : Int32) : Option (ev_M × Int32) :=
  bd2 (fM_call2 s (cI 12) a1 a2) fun s1 v2 =>
  some (s1, v2)
def fPH_arrange (s : ev_M) (a1 : Int32) : Option (ev_M × Int32) :=
  bd2 (fLog_stages s (cI 13) a1 (cI 0) (cI 0) (cI 0) (cI 0) (cI 0)) fun s1 v2 =>
  if v2 = 0 then
    some (s1, (cI (-105)))
  else
    bd2 (fPH_act_1 s1) fun s3 v4 =>
    some (s3, v4)
def fM_arrange (s : ev_M) (a1 : Int32) : Option (ev_M × Int32) :=
  bd2 (fM_call1 s (cI 13) a1) fun s1 v2 =>
  some (s1, v2)
def fRounds_stopAt (s : ev_M) (a1 : Int32) (a2 : Int32) : Option Int32 :=
  if inb a1 12 = true then
  bd1 (fPH_outside s a2 (cI 0) ((s.1 (140 + (ix (cI 3))) (ix a1)) - (cI 1))) fun v1 =>
  if v1 = 0 then
    if inb a1 12 = true then
    if inb a2 20 = true then
    some (s.1 (146 + (ix a1)) (ix a2))
    else none
    else none
  else
    some (cI (-1))
  else none
def fPH_stop (s : ev_M) (a1 : Int32) (a2 : Int32) : Option Int32 :=
  if (s.1 9 9) = 0 then
    bd1 (fRounds_has s a1) fun v1 =>
    if v1 = 0 then
      some (cI (-101))
    else
      bd1 (fRounds_stopAt s a1 a2) fun v2 =>
      some v2
  else
    some (cI (-105))
def fM_stop_b68 (k31 : ev_M → Int32 → Int32 → Int32 → Int32 → Option (ev_M × Int32)) (s : ev_M) (x1 : Int32) (x2 : Int32) (x4 : Int32) (y0 : Int32) : Option (ev_M × Int32) :=
  k31 s x1 x2 y0 (x4 + cI 1)
def fM_stop_b67 (k31 : ev_M → Int32 → Int32 → Int32 → Int32 → Option (ev_M × Int32)) (s : ev_M) (x1 : Int32) (x2 : Int32) (x3 : Int32) (x4 : Int32) : Option (ev_M × Int32) :=
  fM_stop_b68 k31 s x1 x2 x4 x3
def fM_stop_h31 : Nat → ev_M → Int32 → Int32 → Int32 → Int32 → Option (ev_M × Int32)
  | 0, _, _, _, _, _ => none
  | n + 1, s, x1, x2, x3, x4 =>
    if x4 < (s.1 549 38) then
      if inb x4 120 = true then
      if (s.1 571 (ix x4)) = x1 then
        if inb x4 120 = true then
        if (s.1 572 (ix x4)) = x2 then
          fM_stop_b68 (fM_stop_h31 n) s x1 x2 x4 x4
        else
          fM_stop_b67 (fM_stop_h31 n) s x1 x2 x3 x4
        else none
      else
        fM_stop_b67 (fM_stop_h31 n) s x1 x2 x3 x4
      else none
    else
      some (s, x3)
def fM_stop (s : ev_M) (a1 : Int32) (a2 : Int32) : Option (ev_M × Int32) :=
  ltM (wI s 549 0 (cI 0)) fun s1 =>
  if (s1.1 549 5) = 0 then
    bd1 (fM_isRound s1 a1) fun v2 =>
    if v2 = 0 then
      some (s1, (cI (-101)))
    else
      fM_stop_h31 1048576 s1 a1 a2 (cI (-1)) (cI 0)
  else
    some (s1, (cI (-105)))
def fPH_sort (s : ev_M) (a1 : Int32) : Option (ev_M × Int32) :=
  bd2 (fLog_stages s (cI 14) a1 (cI 0) (cI 0) (cI 0) (cI 0) (cI 0)) fun s1 v2 =>
  if v2 = 0 then
    some (s1, (cI (-105)))
  else
    bd2 (fPH_act_1 s1) fun s3 v4 =>
    some (s3, v4)
def fM_sort (s : ev_M) (a1 : Int32) : Option (ev_M × Int32) :=
  bd2 (fM_call1 s (cI 14) a1) fun s1 v2 =>
  some (s1, v2)
def fPH_passes (s : ev_M) : Option Int32 :=
  if (s.1 9 9) = 0 then
    some (s.1 138 9)
  else
    some (cI (-105))
def fM_passes (s : ev_M) : Option (ev_M × Int32) :=
  ltM (wI s 549 0 (cI 0)) fun s1 =>
  if (s1.1 549 5) = 0 then
    some (s1, (s1.1 549 91))
  else
    some (s1, (cI (-105)))
def fPH_wrong (s : ev_M) (a1 : Int32) : Option Int32 :=
  if (s.1 9 9) = 0 then
    bd1 (fPH_outside s a1 (cI 0) ((s.1 138 10) - (cI 1))) fun v1 =>
    if v1 = 0 then
      if inb a1 300 = true then
      some (s.1 173 (ix a1))
      else none
    else
      some (cI (-1))
  else
    some (cI (-105))
def fM_wrong_b46 (k19 : ev_M → Int32 → Int32 → Int32 → Option (ev_M × Int32)) (s : ev_M) (x1 : Int32) (x2 : Int32) (x3 : Int32) : Option (ev_M × Int32) :=
  k19 s x1 x2 (x3 + cI 1)
def fM_wrong_h19 : Nat → ev_M → Int32 → Int32 → Int32 → Option (ev_M × Int32)
  | 0, _, _, _, _ => none
  | n + 1, s, x1, x2, x3 =>
    if x3 < (s.1 549 58) then
      if inb x3 300 = true then
      if (s.1 610 (ix x3)) = 0 then
        fM_wrong_b46 (fM_wrong_h19 n) s x1 x2 x3
      else
        if x2 = x1 then
          some (s, x3)
        else
          fM_wrong_b46 (fM_wrong_h19 n) s x1 (x2 + cI 1) x3
      else none
    else
      some (s, (cI (-1)))
def fM_wrong (s : ev_M) (a1 : Int32) : Option (ev_M × Int32) :=
  ltM (wI s 549 0 (cI 0)) fun s1 =>
  if (s1.1 549 5) = 0 then
    fM_wrong_h19 1048576 s1 a1 (cI 0) (cI 0)
  else
    some (s1, (cI (-105)))
def fRounds_sortedAt (s : ev_M) (a1 : Int32) (a2 : Int32) : Option Int32 :=
  if inb a1 12 = true then
  bd1 (fPH_outside s a2 (cI 0) ((s.1 (140 + (ix (cI 4))) (ix a1)) - (cI 1))) fun v1 =>
  if v1 = 0 then
    if inb a1 12 = true then
    if inb a2 300 = true then
    some (s.1 (160 + (ix a1)) (ix a2))
    else none
    else none
  else
    some (cI (-1))
  else none
def fPH_row (s : ev_M) (a1 : Int32) (a2 : Int32) : Option Int32 :=
  if (s.1 9 9) = 0 then
    bd1 (fRounds_has s a1) fun v1 =>
    if v1 = 0 then
      some (cI (-101))
    else
      bd1 (fRounds_sortedAt s a1 a2) fun v2 =>
      some v2
  else
    some (cI (-105))
def fM_row (s : ev_M) (a1 : Int32) (a2 : Int32) : Option (ev_M × Int32) :=
  ltM (wI s 549 0 (cI 0)) fun s1 =>
  if (s1.1 549 5) = 0 then
    bd1 (fM_isRound s1 a1) fun v2 =>
    if v2 = 0 then
      some (s1, (cI (-101)))
    else
      bd1 (fM_rowAt s1 a1 a2) fun v3 =>
      some (s1, v3)
  else
    some (s1, (cI (-105)))
def fPH_out (s : ev_M) (a1 : Int32) : Option (ev_M × Int32) :=
  bd2 (fLog_stages s (cI 15) a1 (cI 0) (cI 0) (cI 0) (cI 0) (cI 0)) fun s1 v2 =>
  if v2 = 0 then
    some (s1, (cI (-105)))
  else
    bd2 (fPH_act_1 s1) fun s3 v4 =>
    some (s3, v4)
def fM_out (s : ev_M) (a1 : Int32) : Option (ev_M × Int32) :=
  bd2 (fM_call1 s (cI 15) a1) fun s1 v2 =>
  some (s1, v2)
def fPH_leg (s : ev_M) (a1 : Int32) (a2 : Int32) (a3 : Int32) (a4 : Int32) (a5 : Int32) : Option (ev_M × Int32) :=
  bd2 (fLog_stages s (cI 16) a1 a2 a3 a4 a5 (cI 0)) fun s1 v2 =>
  if v2 = 0 then
    some (s1, (cI (-105)))
  else
    bd2 (fPH_act_1 s1) fun s3 v4 =>
    some (s3, v4)
def fM_leg (s : ev_M) (a1 : Int32) (a2 : Int32) (a3 : Int32) (a4 : Int32) (a5 : Int32) : Option (ev_M × Int32) :=
  ltM (wI s 553 (ix (cI 4)) a5) fun s1 =>
  bd2 (fM_call4 s1 (cI 16) a1 a2 a3 a4) fun s2 v3 =>
  some (s2, v3)
def fPH_late (s : ev_M) (a1 : Int32) (a2 : Int32) : Option (ev_M × Int32) :=
  bd2 (fLog_stages s (cI 17) a1 a2 (cI 0) (cI 0) (cI 0) (cI 0)) fun s1 v2 =>
  if v2 = 0 then
    some (s1, (cI (-105)))
  else
    bd2 (fPH_act_1 s1) fun s3 v4 =>
    some (s3, v4)
def fM_late (s : ev_M) (a1 : Int32) (a2 : Int32) : Option (ev_M × Int32) :=
  bd2 (fM_call2 s (cI 17) a1 a2) fun s1 v2 =>
  some (s1, v2)
def fPH_bag (s : ev_M) (a1 : Int32) (a2 : Int32) : Option (ev_M × Int32) :=
  bd2 (fLog_stages s (cI 18) a1 a2 (cI 0) (cI 0) (cI 0) (cI 0)) fun s1 v2 =>
  if v2 = 0 then
    some (s1, (cI (-105)))
  else
    bd2 (fPH_act_1 s1) fun s3 v4 =>
    some (s3, v4)
def fM_bag (s : ev_M) (a1 : Int32) (a2 : Int32) : Option (ev_M × Int32) :=
  bd2 (fM_call2 s (cI 18) a1 a2) fun s1 v2 =>
  some (s1, v2)
def fPH_into (s : ev_M) (a1 : Int32) (a2 : Int32) : Option (ev_M × Int32) :=
  bd2 (fLog_stages s (cI 19) a1 a2 (cI 0) (cI 0) (cI 0) (cI 0)) fun s1 v2 =>
  if v2 = 0 then
    some (s1, (cI (-105)))
  else
    bd2 (fPH_act_1 s1) fun s3 v4 =>
    some (s3, v4)
def fM_into (s : ev_M) (a1 : Int32) (a2 : Int32) : Option (ev_M × Int32) :=
  bd2 (fM_call2 s (cI 19) a1 a2) fun s1 v2 =>
  some (s1, v2)
def fPH_closeBag (s : ev_M) (a1 : Int32) : Option (ev_M × Int32) :=
  bd2 (fLog_stages s (cI 20) a1 (cI 0) (cI 0) (cI 0) (cI 0) (cI 0)) fun s1 v2 =>
  if v2 = 0 then
    some (s1, (cI (-105)))
  else
    bd2 (fPH_act_1 s1) fun s3 v4 =>
    some (s3, v4)
def fM_closeBag (s : ev_M) (a1 : Int32) : Option (ev_M × Int32) :=
  bd2 (fM_call1 s (cI 20) a1) fun s1 v2 =>
  some (s1, v2)
def fPH_openBag (s : ev_M) (a1 : Int32) : Option (ev_M × Int32) :=
  bd2 (fLog_stages s (cI 21) a1 (cI 0) (cI 0) (cI 0) (cI 0) (cI 0)) fun s1 v2 =>
  if v2 = 0 then
    some (s1, (cI (-105)))
  else
    bd2 (fPH_act_1 s1) fun s3 v4 =>
    some (s3, v4)
def fM_openBag (s : ev_M) (a1 : Int32) : Option (ev_M × Int32) :=
  bd2 (fM_call1 s (cI 21) a1) fun s1 v2 =>
  some (s1, v2)
def fPH_bagAt (s : ev_M) (a1 : Int32) (a2 : Int32) : Option Int32 :=
  if (s.1 9 9) = 0 then
    bd1 (fLines_hasBag s a1) fun v1 =>
    if v1 = 0 then
      some (cI (-101))
    else
      bd1 (fPH_outside s a2 (cI 0) (cI 5)) fun v2 =>
      if v2 = 0 then
        if inb a2 6 = true then
        if inb a1 80 = true then
        some (s.1 (459 + (ix a2)) (ix a1))
        else none
        else none
      else
        some (cI (-102))
  else
    some (cI (-105))
def fM_bagAt (s : ev_M) (a1 : Int32) (a2 : Int32) : Option (ev_M × Int32) :=
  ltM (wI s 549 0 (cI 0)) fun s1 =>
  if (s1.1 549 5) = 0 then
    bd1 (fM_isBag s1 a1) fun v2 =>
    if v2 = 0 then
      some (s1, (cI (-101)))
    else
      if a2 = cI 0 then
        if inb a1 80 = true then
        some (s1, (s1.1 618 (ix a1)))
        else none
      else
      if a2 = cI 1 then
        if inb a1 80 = true then
        if (s1.1 618 (ix a1)) = (cI 2) then
          some (s1, (cI (-1)))
        else
          if inb a1 80 = true then
          some (s1, (s1.1 619 (ix a1)))
          else none
        else none
      else
      if a2 = cI 2 then
        if inb a1 80 = true then
        some (s1, (s1.1 620 (ix a1)))
        else none
      else
      if a2 = cI 3 then
        bd1 (fM_inBag s1 a1) fun v3 =>
        some (s1, v3)
      else
      if a2 = cI 4 then
        if inb a1 80 = true then
        some (s1, (s1.1 621 (ix a1)))
        else none
      else
      if a2 = cI 5 then
        if inb a1 80 = true then
        some (s1, (s1.1 622 (ix a1)))
        else none
      else
      some (s1, (cI (-102)))
  else
    some (s1, (cI (-105)))
def fLines_tellWay (s : ev_M) (a1 : Int32) (a2 : Int32) (a3 : Int32) : Option (ev_M × Int32) :=
  bd1 (fBook_hasPlace s a1) fun v1 =>
  if v1 = 0 then
    some (s, (cI (-101)))
  else
    bd1 (fBook_hasPlace s a2) fun v2 =>
    if v2 = 0 then
      some (s, (cI (-101)))
    else
      bd1 (fPH_outside s a3 (cI 0) (cI 1)) fun v3 =>
      if v3 = 0 then
        bd1 (fLines_search s a1) fun s4 =>
        if a3 = 0 then
          if inb a2 12 = true then
          some (s4, (s4.1 546 (ix a2)))
          else none
        else
          if inb a2 12 = true then
          some (s4, (s4.1 547 (ix a2)))
          else none
      else
        some (s, (cI (-102)))
def fPH_way (s : ev_M) (a1 : Int32) (a2 : Int32) (a3 : Int32) : Option (ev_M × Int32) :=
  if (s.1 9 9) = 0 then
    bd2 (fLines_tellWay s a1 a2 a3) fun s1 v2 =>
    some (s1, v2)
  else
    some (s, (cI (-105)))
def fM_way (s : ev_M) (a1 : Int32) (a2 : Int32) (a3 : Int32) : Option (ev_M × Int32) :=
  ltM (wI s 549 0 (cI 0)) fun s1 =>
  if (s1.1 549 5) = 0 then
    bd1 (fM_isPlace s1 a1) fun v2 =>
    if v2 = 0 then
      some (s1, (cI (-101)))
    else
      bd1 (fM_isPlace s1 a2) fun v3 =>
      if v3 = 0 then
        some (s1, (cI (-101)))
      else
        bd1 (fM_in s1 a3 (cI 0) (cI 1)) fun v4 =>
        if v4 = 0 then
          some (s1, (cI (-102)))
        else
          bd1 (fM_findWays s1 a1) fun s5 =>
          if a3 = 0 then
            if inb a2 12 = true then
            some (s5, (s5.1 675 (ix a2)))
            else none
          else
            if inb a2 12 = true then
            some (s5, (s5.1 676 (ix a2)))
            else none
  else
    some (s1, (cI (-105)))
def fPH_hand (s : ev_M) (a1 : Int32) (a2 : Int32) (a3 : Int32) (a4 : Int32) : Option (ev_M × Int32) :=
  bd2 (fLog_stages s (cI 22) a1 a2 a3 a4 (cI 0) (cI 0)) fun s1 v2 =>
  if v2 = 0 then
    some (s1, (cI (-105)))
  else
    bd2 (fPH_act_1 s1) fun s3 v4 =>
    some (s3, v4)
def fM_hand (s : ev_M) (a1 : Int32) (a2 : Int32) (a3 : Int32) (a4 : Int32) : Option (ev_M × Int32) :=
  bd2 (fM_call4 s (cI 22) a1 a2 a3 a4) fun s1 v2 =>
  some (s1, v2)
def fPH_miss (s : ev_M) (a1 : Int32) : Option (ev_M × Int32) :=
  bd2 (fLog_stages s (cI 23) a1 (cI 0) (cI 0) (cI 0) (cI 0) (cI 0)) fun s1 v2 =>
  if v2 = 0 then
    some (s1, (cI (-105)))
  else
    bd2 (fPH_act_1 s1) fun s3 v4 =>
    some (s3, v4)
def fM_miss (s : ev_M) (a1 : Int32) : Option (ev_M × Int32) :=
  bd2 (fM_call1 s (cI 23) a1) fun s1 v2 =>
  some (s1, v2)
def fPH_refuse (s : ev_M) (a1 : Int32) : Option (ev_M × Int32) :=
  bd2 (fLog_stages s (cI 24) a1 (cI 0) (cI 0) (cI 0) (cI 0) (cI 0)) fun s1 v2 =>
  if v2 = 0 then
    some (s1, (cI (-105)))
  else
    bd2 (fPH_act_1 s1) fun s3 v4 =>
    some (s3, v4)
def fM_refuse (s : ev_M) (a1 : Int32) : Option (ev_M × Int32) :=
  bd2 (fM_call1 s (cI 24) a1) fun s1 v2 =>
  some (s1, v2)
def fPH_put (s : ev_M) (a1 : Int32) (a2 : Int32) : Option (ev_M × Int32) :=
  bd2 (fLog_stages s (cI 25) a1 a2 (cI 0) (cI 0) (cI 0) (cI 0)) fun s1 v2 =>
  if v2 = 0 then
    some (s1, (cI (-105)))
  else
    bd2 (fPH_act_1 s1) fun s3 v4 =>
    some (s3, v4)
def fM_put (s : ev_M) (a1 : Int32) (a2 : Int32) : Option (ev_M × Int32) :=
  bd2 (fM_call2 s (cI 25) a1 a2) fun s1 v2 =>
  some (s1, v2)
def fPH_pickUp (s : ev_M) (a1 : Int32) (a2 : Int32) (a3 : Int32) (a4 : Int32) : Option (ev_M × Int32) :=
  bd2 (fLog_stages s (cI 26) a1 a2 a3 a4 (cI 0) (cI 0)) fun s1 v2 =>
  if v2 = 0 then
    some (s1, (cI (-105)))
  else
    bd2 (fPH_act_1 s1) fun s3 v4 =>
    some (s3, v4)
def fM_pickUp (s : ev_M) (a1 : Int32) (a2 : Int32) (a3 : Int32) (a4 : Int32) : Option (ev_M × Int32) :=
  bd2 (fM_call4 s (cI 26) a1 a2 a3 a4) fun s1 v2 =>
  some (s1, v2)
def fPH_openBox (s : ev_M) (a1 : Int32) (a2 : Int32) : Option (ev_M × Int32) :=
  bd2 (fLog_stages s (cI 27) a1 a2 (cI 0) (cI 0) (cI 0) (cI 0)) fun s1 v2 =>
  if v2 = 0 then
    some (s1, (cI (-105)))
  else
    bd2 (fPH_act_1 s1) fun s3 v4 =>
    some (s3, v4)
def fM_openBox (s : ev_M) (a1 : Int32) (a2 : Int32) : Option (ev_M × Int32) :=
  bd2 (fM_call2 s (cI 27) a1 a2) fun s1 v2 =>
  some (s1, v2)
def fPH_lose (s : ev_M) (a1 : Int32) : Option (ev_M × Int32) :=
  bd2 (fLog_stages s (cI 28) a1 (cI 0) (cI 0) (cI 0) (cI 0) (cI 0)) fun s1 v2 =>
  if v2 = 0 then
    some (s1, (cI (-105)))
  else
    bd2 (fPH_act_1 s1) fun s3 v4 =>
    some (s3, v4)
def fM_lose (s : ev_M) (a1 : Int32) : Option (ev_M × Int32) :=
  bd2 (fM_call1 s (cI 28) a1) fun s1 v2 =>
  some (s1, v2)
def fPH_account (s : ev_M) (a1 : Int32) : Option (ev_M × Int32) :=
  bd2 (fLog_stages s (cI 29) a1 (cI 0) (cI 0) (cI 0) (cI 0) (cI 0)) fun s1 v2 =>
  if v2 = 0 then
    some (s1, (cI (-105)))
  else
    bd2 (fPH_act_1 s1) fun s3 v4 =>
    some (s3, v4)
def fM_account (s : ev_M) (a1 : Int32) : Option (ev_M × Int32) :=
  bd2 (fM_call1 s (cI 29) a1) fun s1 v2 =>
  some (s1, v2)
def fPH_deposit (s : ev_M) (a1 : Int32) (a2 : Int32) : Option (ev_M × Int32) :=
  bd2 (fLog_stages s (cI 30) a1 a2 (cI 0) (cI 0) (cI 0) (cI 0)) fun s1 v2 =>
  if v2 = 0 then
    some (s1, (cI (-105)))
  else
    bd2 (fPH_act_1 s1) fun s3 v4 =>
    some (s3, v4)
def fM_deposit (s : ev_M) (a1 : Int32) (a2 : Int32) : Option (ev_M × Int32) :=
  bd2 (fM_call2 s (cI 30) a1 a2) fun s1 v2 =>
  some (s1, v2)
def fPH_balance (s : ev_M) (a1 : Int32) : Option Int64 :=
  if (s.1 9 9) = 0 then
    bd1 (fMoney_has s a1) fun v1 =>
    if v1 = 0 then
      some (cL (-101))
    else
      if inb a1 34 = true then
      some (s.2.1 80 (ix a1))
      else none
  else
    some (cL (-105))
def fM_balance_b41 (s : ev_M) (x1 : Int32) : Option (ev_M × Int64) :=
  bd1 (fM_balanceOf s x1) fun v1 =>
  some (s, v1)
def fM_balance (s : ev_M) (a1 : Int32) : Option (ev_M × Int64) :=
  ltM (wI s 549 0 (cI 0)) fun s2 =>
  if (s2.1 549 5) = 0 then
    bd1 (fM_in s2 a1 (cI 0) (cI 3)) fun v3 =>
    if v3 = 0 then
      bd1 (fM_isCustomer s2 a1) fun v4 =>
      if v4 = 0 then
        some (s2, (cL (-101)))
      else
        fM_balance_b41 s2 a1
    else
      fM_balance_b41 s2 a1
  else
    some (s2, (cL (-105)))
def fMoney_tellBooking (s : ev_M) (a1 : Int32) (a2 : Int32) : Option Int32 :=
  bd1 (fPH_outside s a2 (cI 0) (cI 3)) fun v1 =>
  if v1 = 0 then
    bd1 (fPH_outside s a1 (cI 0) ((s.1 78 6) - (cI 1))) fun v2 =>
    if v2 = 0 then
      if inb a2 4 = true then
      if inb a1 2000 = true then
      some (s.1 (82 + (ix a2)) (ix a1))
      else none
      else none
    else
      some (cI (-1))
  else
    some (cI (-102))
def fPH_entry (s : ev_M) (a1 : Int32) (a2 : Int32) : Option Int32 :=
  if (s.1 9 9) = 0 then
    bd1 (fMoney_tellBooking s a1 a2) fun v1 =>
    some v1
  else
    some (cI (-105))
def fM_entry (s : ev_M) (a1 : Int32) (a2 : Int32) : Option (ev_M × Int32) :=
  ltM (wI s 549 0 (cI 0)) fun s1 =>
  if (s1.1 549 5) = 0 then
    bd1 (fM_in s1 a2 (cI 0) (cI 3)) fun v2 =>
    if v2 = 0 then
      some (s1, (cI (-102)))
    else
      bd1 (fM_in s1 a1 (cI 0) ((s1.1 549 114) - (cI 1))) fun v3 =>
      if v3 = 0 then
        some (s1, (cI (-1)))
      else
        if a2 = 0 then
          if inb a1 2000 = true then
          some (s1, (s1.1 628 (ix a1)))
          else none
        else
          if a2 = (cI 1) then
            if inb a1 2000 = true then
            some (s1, (s1.1 629 (ix a1)))
            else none
          else
            if a2 = (cI 2) then
              if inb a1 2000 = true then
              some (s1, (s1.1 630 (ix a1)))
              else none
            else
              if inb a1 2000 = true then
              some (s1, (s1.1 631 (ix a1)))
              else none
  else
    some (s1, (cI (-105)))
def fPH_tariff (s : ev_M) : Option (ev_M × Int32) :=
  bd2 (fLog_stages s (cI 31) (cI 0) (cI 0) (cI 0) (cI 0) (cI 0) (cI 0)) fun s1 v2 =>
  if v2 = 0 then
    some (s1, (cI (-105)))
  else
    bd2 (fPH_act_1 s1) fun s3 v4 =>
    ltM (wI s3 1 1 (cI 0)) fun s5 =>
    some (s5, v4)
def fM_tariff (s : ev_M) : Option (ev_M × Int32) :=
  bd2 (fM_call s (cI 31)) fun s1 v2 =>
  some (s1, v2)
def fPH_price (s : ev_M) (a1 : Int32) : Option Int32 :=
  if (s.1 9 9) = 0 then
    bd1 (fItems_has s a1) fun v1 =>
    if v1 = 0 then
      some (cI (-101))
    else
      bd1 (fItems_priceOf s a1) fun v2 =>
      some v2
  else
    some (cI (-105))
def fM_price (s : ev_M) (a1 : Int32) : Option (ev_M × Int32) :=
  ltM (wI s 549 0 (cI 0)) fun s1 =>
  if (s1.1 549 5) = 0 then
    bd1 (fM_isItem s1 a1) fun v2 =>
    if v2 = 0 then
      some (s1, (cI (-101)))
    else
      bd1 (fM_priceOf s1 a1) fun v3 =>
      some (s1, v3)
  else
    some (s1, (cI (-105)))
def fPH_frank (s : ev_M) (a1 : Int32) : Option (ev_M × Int32) :=
  bd2 (fLog_stages s (cI 32) a1 (cI 0) (cI 0) (cI 0) (cI 0) (cI 0)) fun s1 v2 =>
  if v2 = 0 then
    some (s1, (cI (-105)))
  else
    bd2 (fPH_act_1 s1) fun s3 v4 =>
    some (s3, v4)
def fM_frank (s : ev_M) (a1 : Int32) : Option (ev_M × Int32) :=
  bd2 (fM_call1 s (cI 32) a1) fun s1 v2 =>
  some (s1, v2)
def fPH_order (s : ev_M) (a1 : Int32) (a2 : Int32) (a3 : Int32) : Option (ev_M × Int32) :=
  bd2 (fLog_stages s (cI 33) a1 a2 a3 (cI 0) (cI 0) (cI 0)) fun s1 v2 =>
  if v2 = 0 then
    some (s1, (cI (-105)))
  else
    bd2 (fPH_act_1 s1) fun s3 v4 =>
    some (s3, v4)
def fM_order (s : ev_M) (a1 : Int32) (a2 : Int32) (a3 : Int32) : Option (ev_M × Int32) :=
  bd2 (fM_call3 s (cI 33) a1 a2 a3) fun s1 v2 =>
  some (s1, v2)
def fPH_payOut (s : ev_M) (a1 : Int32) (a2 : Int32) (a3 : Int32) : Option (ev_M × Int32) :=
  bd2 (fLog_stages s (cI 34) a1 a2 a3 (cI 0) (cI 0) (cI 0)) fun s1 v2 =>
  if v2 = 0 then
    some (s1, (cI (-105)))
  else
    bd2 (fPH_act_1 s1) fun s3 v4 =>
    some (s3, v4)
def fM_payOut (s : ev_M) (a1 : Int32) (a2 : Int32) (a3 : Int32) : Option (ev_M × Int32) :=
  bd2 (fM_call3 s (cI 34) a1 a2 a3) fun s1 v2 =>
  some (s1, v2)
def fPH_orderAt (s : ev_M) (a1 : Int32) (a2 : Int32) : Option Int32 :=
  if (s.1 9 9) = 0 then
    bd1 (fMoney_hasOrder s a1) fun v1 =>
    if v1 = 0 then
      some (cI (-101))
    else
      bd1 (fPH_outside s a2 (cI 0) (cI 4)) fun v2 =>
      if v2 = 0 then
        if inb a2 5 = true then
        if inb a1 60 = true then
        some (s.1 (87 + (ix a2)) (ix a1))
        else none
        else none
      else
        some (cI (-102))
  else
    some (cI (-105))
def fM_orderAt (s : ev_M) (a1 : Int32) (a2 : Int32) : Option (ev_M × Int32) :=
  ltM (wI s 549 0 (cI 0)) fun s1 =>
  if (s1.1 549 5) = 0 then
    bd1 (fM_in s1 a1 (cI 0) ((s1.1 549 119) - (cI 1))) fun v2 =>
    if v2 = 0 then
      some (s1, (cI (-101)))
    else
      if a2 = cI 0 then
        if inb a1 60 = true then
        some (s1, (s1.1 632 (ix a1)))
        else none
      else
      if a2 = cI 1 then
        if inb a1 60 = true then
        some (s1, (s1.1 633 (ix a1)))
        else none
      else
      if a2 = cI 2 then
        if inb a1 60 = true then
        some (s1, (s1.1 634 (ix a1)))
        else none
      else
      if a2 = cI 3 then
        if inb a1 60 = true then
        some (s1, (s1.1 635 (ix a1)))
        else none
      else
      if a2 = cI 4 then
        if inb a1 60 = true then
        some (s1, (s1.1 636 (ix a1)))
        else none
      else
      some (s1, (cI (-102)))
  else
    some (s1, (cI (-105)))
def fPH_claim (s : ev_M) (a1 : Int32) (a2 : Int32) : Option (ev_M × Int32) :=
  bd2 (fLog_stages s (cI 35) a1 a2 (cI 0) (cI 0) (cI 0) (cI 0)) fun s1 v2 =>
  if v2 = 0 then
    some (s1, (cI (-105)))
  else
    bd2 (fPH_act_1 s1) fun s3 v4 =>
    some (s3, v4)
def fM_claim (s : ev_M) (a1 : Int32) (a2 : Int32) : Option (ev_M × Int32) :=
  bd2 (fM_call2 s (cI 35) a1 a2) fun s1 v2 =>
  some (s1, v2)
def fPH_locker (s : ev_M) (a1 : Int32) (a2 : Int32) : Option (ev_M × Int32) :=
  bd2 (fLog_stages s (cI 36) a1 a2 (cI 0) (cI 0) (cI 0) (cI 0)) fun s1 v2 =>
  if v2 = 0 then
    some (s1, (cI (-105)))
  else
    bd2 (fPH_act_1 s1) fun s3 v4 =>
    some (s3, v4)
def fM_locker (s : ev_M) (a1 : Int32) (a2 : Int32) : Option (ev_M × Int32) :=
  bd2 (fM_call2 s (cI 36) a1 a2) fun s1 v2 =>
  some (s1, v2)
def fLock_freeBoxes_b29 (s : ev_M) (k4 : Int32 → Int32 → Int32 → Option Int32) (x1 : Int32) (x2 : Int32) (x3 : Int32) : Option Int32 :=
  k4 x1 x2 (x3 + cI 1)
def fLock_freeBoxes_h4 (s : ev_M) : Nat → Int32 → Int32 → Int32 → Option Int32
  | 0, _, _, _ => none
  | n + 1, x1, x2, x3 =>
    if inb x1 8 = true then
    if x3 < (s.1 127 (ix x1)) then
      if inb x1 8 = true then
      if inb x3 10 = true then
      if (s.1 (130 + (ix x1)) (ix x3)) = (cI (-1)) then
        fLock_freeBoxes_b29 s (fLock_freeBoxes_h4 s n) x1 (x2 + cI 1) x3
      else
        fLock_freeBoxes_b29 s (fLock_freeBoxes_h4 s n) x1 x2 x3
      else none
      else none
    else
      some x2
    else none
def fLock_freeBoxes (s : ev_M) (a1 : Int32) : Option Int32 :=
  fLock_freeBoxes_h4 s 1048576 a1 (cI 0) (cI 0)
def fLock_tell (s : ev_M) (a1 : Int32) (a2 : Int32) : Option Int32 :=
  if a2 = cI 0 then
    if inb a1 8 = true then
    some (s.1 126 (ix a1))
    else none
  else
  if a2 = cI 1 then
    if inb a1 8 = true then
    some (s.1 127 (ix a1))
    else none
  else
  if a2 = cI 2 then
    bd1 (fLock_freeBoxes s a1) fun v1 =>
    some v1
  else
  if a2 = cI 3 then
    if inb a1 8 = true then
    some (s.1 128 (ix a1))
    else none
  else
  some (cI (-102))
def fPH_lockerAt (s : ev_M) (a1 : Int32) (a2 : Int32) : Option Int32 :=
  if (s.1 9 9) = 0 then
    bd1 (fLock_has s a1) fun v1 =>
    if v1 = 0 then
      some (cI (-101))
    else
      bd1 (fLock_tell s a1 a2) fun v2 =>
      some v2
  else
    some (cI (-105))
def fM_lockerAt_b60 (k31 : ev_M → Int32 → Int32 → Int32 → Int32 → Option (ev_M × Int32)) (s : ev_M) (x1 : Int32) (x2 : Int32) (x4 : Int32) (y0 : Int32) : Option (ev_M × Int32) :=
  k31 s x1 x2 y0 (x4 + cI 1)
def fM_lockerAt_h31 : Nat → ev_M → Int32 → Int32 → Int32 → Int32 → Option (ev_M × Int32)
  | 0, _, _, _, _, _ => none
  | n + 1, s, x1, x2, x3, x4 =>
    if inb x1 8 = true then
    if x4 < (s.1 624 (ix x1)) then
      bd1 (fM_inBox s x1 x4) fun v1 =>
      if v1 = (cI (-1)) then
        fM_lockerAt_b60 (fM_lockerAt_h31 n) s x1 x2 x4 (x3 + (cI 1))
      else
        fM_lockerAt_b60 (fM_lockerAt_h31 n) s x1 x2 x4 x3
    else
      if x2 = 0 then
        if inb x1 8 = true then
        some (s, (s.1 623 (ix x1)))
        else none
      else
        if x2 = (cI 1) then
          if inb x1 8 = true then
          some (s, (s.1 624 (ix x1)))
          else none
        else
          if x2 = (cI 2) then
            some (s, x3)
          else
            if x2 = (cI 3) then
              if inb x1 8 = true then
              some (s, (s.1 625 (ix x1)))
              else none
            else
              some (s, (cI (-102)))
    else none
def fM_lockerAt (s : ev_M) (a1 : Int32) (a2 : Int32) : Option (ev_M × Int32) :=
  ltM (wI s 549 0 (cI 0)) fun s2 =>
  if (s2.1 549 5) = 0 then
    bd1 (fM_isLocker s2 a1) fun v3 =>
    if v3 = 0 then
      some (s2, (cI (-101)))
    else
      fM_lockerAt_h31 1048576 s2 a1 a2 (cI 0) (cI 0)
  else
    some (s2, (cI (-105)))
def fPH_device (s : ev_M) (a1 : Int32) (a2 : Int32) : Option (ev_M × Int32) :=
  bd2 (fLog_stages s (cI 37) a1 a2 (cI 0) (cI 0) (cI 0) (cI 0)) fun s1 v2 =>
  if v2 = 0 then
    some (s1, (cI (-105)))
  else
    bd2 (fPH_act_1 s1) fun s3 v4 =>
    some (s3, v4)
def fM_device (s : ev_M) (a1 : Int32) (a2 : Int32) : Option (ev_M × Int32) :=
  bd2 (fM_call2 s (cI 37) a1 a2) fun s1 v2 =>
  some (s1, v2)
def fPH_scanned (s : ev_M) (a1 : Int32) (a2 : Int32) (a3 : Int32) (a4 : Int32) : Option (ev_M × Int32) :=
  bd2 (fLog_stages s (cI 38) a1 a2 a3 a4 (cI 0) (cI 0)) fun s1 v2 =>
  if v2 = 0 then
    some (s1, (cI (-105)))
  else
    bd2 (fPH_act_1 s1) fun s3 v4 =>
    some (s3, v4)
def fM_scanned (s : ev_M) (a1 : Int32) (a2 : Int32) (a3 : Int32) (a4 : Int32) : Option (ev_M × Int32) :=
  bd2 (fM_call4 s (cI 38) a1 a2 a3 a4) fun s1 v2 =>
  some (s1, v2)
def fChron_tellEvent_b56 (s : ev_M) (x3 : Int32) (x4 : Int32) : Option Int32 :=
  if x4 = (cI (-1)) then
    some (cI (-1))
  else
    if inb x3 3 = true then
    if inb x4 5000 = true then
    some (s.1 (17 + (ix x3)) (ix x4))
    else none
    else none
def fChron_tellEvent_h29 (s : ev_M) : Nat → Int32 → Int32 → Int32 → Int32 → Option Int32
  | 0, _, _, _, _ => none
  | n + 1, x2, x3, x4, x5 =>
    if x5 < x2 then
      if x4 = (cI (-1)) then
        fChron_tellEvent_b56 s x3 x4
      else
        if inb x4 5000 = true then
        ltI (s.1 22 (ix x4)) fun v1 =>
        (fChron_tellEvent_h29 s n) x2 x3 v1 (x5 + cI 1)
        else none
    else
      fChron_tellEvent_b56 s x3 x4
def fChron_tellEvent (s : ev_M) (a1 : Int32) (a2 : Int32) (a3 : Int32) : Option Int32 :=
  bd1 (fPH_outside s a3 (cI 0) (cI 2)) fun v2 =>
  if v2 = 0 then
    if a2 < 0 then
      some (cI (-1))
    else
      if inb a1 300 = true then
      ltI (s.1 20 (ix a1)) fun v3 =>
      fChron_tellEvent_h29 s 1048576 a2 a3 v3 (cI 0)
      else none
  else
    some (cI (-102))
def fPH_trace (s : ev_M) (a1 : Int32) (a2 : Int32) (a3 : Int32) : Option Int32 :=
  if (s.1 9 9) = 0 then
    bd1 (fItems_has s a1) fun v1 =>
    if v1 = 0 then
      some (cI (-101))
    else
      bd1 (fChron_tellEvent s a1 a2 a3) fun v2 =>
      some v2
  else
    some (cI (-105))
def fM_trace_b192 (k66 : ev_M → Int32 → Int32 → Int32 → Int32 → Int32 → Int32 → Option (ev_M × Int32)) (k85 : ev_M → Int32 → Int32 → Int32 → Int32 → Int32 → Int32 → Int32 → Int32 → Option (ev_M × Int32)) (s : ev_M) (x1 : Int32) (x2 : Int32) (x3 : Int32) (x4 : Int32) (x5 : Int32) (x6 : Int32) (x8 : Int32) (y0 : Int32) : Option (ev_M × Int32) :=
  k85 s x1 x2 x3 x4 x5 x6 y0 (x8 + cI 1)
def fM_trace_b185 (k66 : ev_M → Int32 → Int32 → Int32 → Int32 → Int32 → Int32 → Option (ev_M × Int32)) (k85 : ev_M → Int32 → Int32 → Int32 → Int32 → Int32 → Int32 → Int32 → Int32 → Option (ev_M × Int32)) (s : ev_M) (x1 : Int32) (x2 : Int32) (x3 : Int32) (x4 : Int32) (x5 : Int32) (x6 : Int32) (x8 : Int32) : Option (ev_M × Int32) :=
  fM_trace_b192 k66 k85 s x1 x2 x3 x4 x5 x6 x8 x8
def fM_trace_b190 (k66 : ev_M → Int32 → Int32 → Int32 → Int32 → Int32 → Int32 → Option (ev_M × Int32)) (k85 : ev_M → Int32 → Int32 → Int32 → Int32 → Int32 → Int32 → Int32 → Int32 → Option (ev_M × Int32)) (s : ev_M) (x1 : Int32) (x2 : Int32) (x3 : Int32) (x4 : Int32) (x5 : Int32) (x6 : Int32) (x7 : Int32) (x8 : Int32) : Option (ev_M × Int32) :=
  fM_trace_b192 k66 k85 s x1 x2 x3 x4 x5 x6 x8 x7
def fM_trace_b155 (k66 : ev_M → Int32 → Int32 → Int32 → Int32 → Int32 → Int32 → Option (ev_M × Int32)) (k85 : ev_M → Int32 → Int32 → Int32 → Int32 → Int32 → Int32 → Int32 → Int32 → Option (ev_M × Int32)) (s : ev_M) (x1 : Int32) (x2 : Int32) (x3 : Int32) (x4 : Int32) (x5 : Int32) (x6 : Int32) (x7 : Int32) (x8 : Int32) (y0 : Int32) : Option (ev_M × Int32) :=
  if y0 = 0 then
    fM_trace_b190 k66 k85 s x1 x2 x3 x4 x5 x6 x7 x8
  else
    if x7 = (cI (-1)) then
      fM_trace_b185 k66 k85 s x1 x2 x3 x4 x5 x6 x8
    else
      if inb x8 5000 = true then
      if inb x7 5000 = true then
      if (s.1 643 (ix x8)) < (s.1 643 (ix x7)) then
        fM_trace_b185 k66 k85 s x1 x2 x3 x4 x5 x6 x8
      else
        fM_trace_b190 k66 k85 s x1 x2 x3 x4 x5 x6 x7 x8
      else none
      else none
def fM_trace_b150 (k66 : ev_M → Int32 → Int32 → Int32 → Int32 → Int32 → Int32 → Option (ev_M × Int32)) (k85 : ev_M → Int32 → Int32 → Int32 → Int32 → Int32 → Int32 → Int32 → Int32 → Option (ev_M × Int32)) (s : ev_M) (x1 : Int32) (x2 : Int32) (x3 : Int32) (x4 : Int32) (x5 : Int32) (x6 : Int32) (x7 : Int32) (x8 : Int32) : Option (ev_M × Int32) :=
  fM_trace_b155 k66 k85 s x1 x2 x3 x4 x5 x6 x7 x8 (cI 1)
def fM_trace_b154 (k66 : ev_M → Int32 → Int32 → Int32 → Int32 → Int32 → Int32 → Option (ev_M × Int32)) (k85 : ev_M → Int32 → Int32 → Int32 → Int32 → Int32 → Int32 → Int32 → Int32 → Option (ev_M × Int32)) (s : ev_M) (x1 : Int32) (x2 : Int32) (x3 : Int32) (x4 : Int32) (x5 : Int32) (x6 : Int32) (x7 : Int32) (x8 : Int32) : Option (ev_M × Int32) :=
  fM_trace_b155 k66 k85 s x1 x2 x3 x4 x5 x6 x7 x8 (cI 0)
def fM_trace_h85 (k66 : ev_M → Int32 → Int32 → Int32 → Int32 → Int32 → Int32 → Option (ev_M × Int32)) : Nat → ev_M → Int32 → Int32 → Int32 → Int32 → Int32 → Int32 → Int32 → Int32 → Option (ev_M × Int32)
  | 0, _, _, _, _, _, _, _, _, _ => none
  | n + 1, s, x1, x2, x3, x4, x5, x6, x7, x8 =>
    if x8 < x4 then
      if inb x8 5000 = true then
      if (s.1 640 (ix x8)) = x1 then
        if x5 = (cI (-1)) then
          fM_trace_b150 k66 (fM_trace_h85 k66 n) s x1 x2 x3 x4 x5 x6 x7 x8
        else
          if inb x8 5000 = true then
          if inb x5 5000 = true then
          if (s.1 643 (ix x8)) ≤ (s.1 643 (ix x5)) then
            if inb x8 5000 = true then
            if inb x5 5000 = true then
            if (s.1 643 (ix x8)) = (s.1 643 (ix x5)) then
              if x8 ≤ x5 then
                fM_trace_b154 k66 (fM_trace_h85 k66 n) s x1 x2 x3 x4 x5 x6 x7 x8
              else
                fM_trace_b150 k66 (fM_trace_h85 k66 n) s x1 x2 x3 x4 x5 x6 x7 x8
            else
              fM_trace_b154 k66 (fM_trace_h85 k66 n) s x1 x2 x3 x4 x5 x6 x7 x8
            else none
            else none
          else
            fM_trace_b150 k66 (fM_trace_h85 k66 n) s x1 x2 x3 x4 x5 x6 x7 x8
          else none
          else none
      else
        fM_trace_b154 k66 (fM_trace_h85 k66 n) s x1 x2 x3 x4 x5 x6 x7 x8
      else none
    else
      if x7 = (cI (-1)) then
        some (s, (cI (-1)))
      else
        k66 s x1 x2 x3 x4 x7 (x6 + cI 1)
def fM_trace_b218 (s : ev_M) (x3 : Int32) (x5 : Int32) : Option (ev_M × Int32) :=
  if x5 = (cI (-1)) then
    some (s, (cI (-1)))
  else
    if x3 = 0 then
      if inb x5 5000 = true then
      some (s, (s.1 641 (ix x5)))
      else none
    else
      if x3 = (cI 1) then
        if inb x5 5000 = true then
        some (s, (s.1 642 (ix x5)))
        else none
      else
        if inb x5 5000 = true then
        some (s, (s.1 643 (ix x5)))
        else none
def fM_trace_h66 : Nat → ev_M → Int32 → Int32 → Int32 → Int32 → Int32 → Int32 → Option (ev_M × Int32)
  | 0, _, _, _, _, _, _, _ => none
  | n + 1, s, x1, x2, x3, x4, x5, x6 =>
    if x6 ≤ x2 then
      if x6 ≤ x4 then
        fM_trace_h85 (fM_trace_h66 n) 1048576 s x1 x2 x3 x4 x5 x6 (cI (-1)) (cI 0)
      else
        fM_trace_b218 s x3 x5
    else
      fM_trace_b218 s x3 x5
def fM_trace_b58 (s : ev_M) (x1 : Int32) (x2 : Int32) (x3 : Int32) (y0 : Int32) : Option (ev_M × Int32) :=
  fM_trace_h66 1048576 s x1 x2 x3 y0 (cI (-1)) (cI 0)
def fM_trace (s : ev_M) (a1 : Int32) (a2 : Int32) (a3 : Int32) : Option (ev_M × Int32) :=
  ltM (wI s 549 0 (cI 0)) fun s1 =>
  if (s1.1 549 5) = 0 then
    bd1 (fM_isItem s1 a1) fun v2 =>
    if v2 = 0 then
      some (s1, (cI (-101)))
    else
      bd1 (fM_in s1 a3 (cI 0) (cI 2)) fun v3 =>
      if v3 = 0 then
        some (s1, (cI (-102)))
      else
        if (s1.1 549 129) < (cI 5000) then
          fM_trace_b58 s1 a1 a2 a3 (s1.1 549 129)
        else
          fM_trace_b58 s1 a1 a2 a3 (cI 5000)
  else
    some (s1, (cI (-105)))
def fChron_tellNotice (s : ev_M) (a1 : Int32) (a2 : Int32) : Option Int32 :=
  bd1 (fPH_outside s a2 (cI 0) (cI 3)) fun v1 =>
  if v1 = 0 then
    bd1 (fMath_min s (s.1 15 7) (cI 3000)) fun v2 =>
    bd1 (fPH_outside s a1 (cI 0) (v2 - (cI 1))) fun v3 =>
    if v3 = 0 then
      if inb a2 4 = true then
      if inb a1 3000 = true then
      some (s.1 (24 + (ix a2)) (ix a1))
      else none
      else none
    else
      some (cI (-1))
  else
    some (cI (-102))
def fPH_notice (s : ev_M) (a1 : Int32) (a2 : Int32) : Option Int32 :=
  if (s.1 9 9) = 0 then
    bd1 (fChron_tellNotice s a1 a2) fun v1 =>
    some v1
  else
    some (cI (-105))
def fM_notice_b49 (s : ev_M) (x1 : Int32) (x2 : Int32) (y0 : Int32) (y1 : Int32) (y2 : Int32) : Option (ev_M × Int32) :=
  bd1 (fM_in s y0 y1 (y2 - (cI 1))) fun v1 =>
  if v1 = 0 then
    some (s, (cI (-1)))
  else
    if x2 = 0 then
      if inb x1 3000 = true then
      if inb (s.1 644 (ix x1)) 300 = true then
      some (s, (s.1 587 (ix (s.1 644 (ix x1)))))
      else none
      else none
    else
      if x2 = (cI 1) then
        if inb x1 3000 = true then
        some (s, (s.1 644 (ix x1)))
        else none
      else
        if x2 = (cI 2) then
          if inb x1 3000 = true then
          some (s, (s.1 645 (ix x1)))
          else none
        else
          if inb x1 3000 = true then
          some (s, (s.1 646 (ix x1)))
          else none
def fM_notice (s : ev_M) (a1 : Int32) (a2 : Int32) : Option (ev_M × Int32) :=
  ltM (wI s 549 0 (cI 0)) fun s2 =>
  if (s2.1 549 5) = 0 then
    bd1 (fM_in s2 a2 (cI 0) (cI 3)) fun v3 =>
    if v3 = 0 then
      some (s2, (cI (-102)))
    else
      if (s2.1 549 134) < (cI 3000) then
        fM_notice_b49 s2 a1 a2 a1 (cI 0) (s2.1 549 134)
      else
        fM_notice_b49 s2 a1 a2 a1 (cI 0) (cI 3000)
  else
    some (s2, (cI (-105)))
def fPH_tick (s : ev_M) (a1 : Int32) : Option (ev_M × Int32) :=
  bd2 (fLog_stages s (cI 40) a1 (cI 0) (cI 0) (cI 0) (cI 0) (cI 0)) fun s1 v2 =>
  if v2 = 0 then
    some (s1, (cI (-105)))
  else
    bd2 (fPH_act_1 s1) fun s3 v4 =>
    some (s3, v4)
def fM_tick (s : ev_M) (a1 : Int32) : Option (ev_M × Int32) :=
  bd2 (fM_call1 s (cI 40) a1) fun s1 v2 =>
  some (s1, v2)
def fPH_now (s : ev_M) : Option Int32 :=
  if (s.1 9 9) = 0 then
    some (s.1 15 1)
  else
    some (cI (-105))
def fM_now (s : ev_M) : Option (ev_M × Int32) :=
  ltM (wI s 549 0 (cI 0)) fun s1 =>
  if (s1.1 549 5) = 0 then
    some (s1, (s1.1 549 22))
  else
    some (s1, (cI (-105)))
def fMoney_faults_b49 (s : ev_M) (k7 : Int64 → Int32 → Int32 → Option Int32) (x1 : Int64) (x3 : Int32) (x4 : Int32) : Option Int32 :=
  k7 x1 x3 (x4 + cI 1)
def fMoney_faults_h7 (s : ev_M) : Nat → Int64 → Int32 → Int32 → Option Int32
  | 0, _, _, _ => none
  | n + 1, x1, x3, x4 =>
    if x4 < ((cI 4) + (s.1 78 3)) then
      if inb x4 34 = true then
      ltL (x1 + (s.2.1 80 (ix x4))) fun v1 =>
      if x4 < (cI 4) then
        fMoney_faults_b49 s (fMoney_faults_h7 s n) v1 x3 x4
      else
        if inb x4 34 = true then
        if (lg_cmp (s.2.1 80 (ix x4)) (cL 0)) < 0 then
          fMoney_faults_b49 s (fMoney_faults_h7 s n) v1 (x3 + cI 1) x4
        else
          fMoney_faults_b49 s (fMoney_faults_h7 s n) v1 x3 x4
        else none
      else none
    else
      if (lg_cmp x1 (cL 0)) = 0 then
        some x3
      else
        some (x3 + (cI 1))
def fMoney_faults (s : ev_M) : Option Int32 :=
  fMoney_faults_h7 s 1048576 (cL 0) (cI 0) (cI 0)
def fLines_overladen_b31 (s : ev_M) (k4 : Int32 → Int32 → Option Int32) (x1 : Int32) (x2 : Int32) : Option Int32 :=
  k4 x1 (x2 + cI 1)
def fLines_overladen_h4 (s : ev_M) : Nat → Int32 → Int32 → Option Int32
  | 0, _, _ => none
  | n + 1, x1, x2 =>
    if x2 < (s.1 449 4) then
      bd1 (fLines_carriedBy s x2) fun v1 =>
      if inb x2 20 = true then
      if v1 ≤ (s.1 (451 + (ix (cI 4))) (ix x2)) then
        fLines_overladen_b31 s (fLines_overladen_h4 s n) x1 x2
      else
        fLines_overladen_b31 s (fLines_overladen_h4 s n) (x1 + cI 1) x2
      else none
    else
      some x1
def fLines_overladen (s : ev_M) : Option Int32 :=
  fLines_overladen_h4 s 1048576 (cI 0) (cI 0)
def fItems_misplaced_b38 (s : ev_M) (k4 : Int32 → Int32 → Int32 → Option Int32) (x1 : Int32) (x2 : Int32) (x3 : Int32) : Option Int32 :=
  k4 x1 x2 (x3 + cI 1)
def fItems_misplaced_b32 (s : ev_M) (k4 : Int32 → Int32 → Int32 → Option Int32) (x1 : Int32) (x2 : Int32) (x3 : Int32) (y0 : Int32) (y1 : Int32) : Option Int32 :=
  if y0 = y1 then
    fItems_misplaced_b38 s k4 x1 x2 x3
  else
    fItems_misplaced_b38 s k4 x1 (x2 + cI 1) x3
def fItems_misplaced_h4 (s : ev_M) : Nat → Int32 → Int32 → Int32 → Option Int32
  | 0, _, _, _ => none
  | n + 1, x1, x2, x3 =>
    if x3 < (s.1 100 5) then
      if inb x3 300 = true then
      bd1 (fItems_is s x3 x1) fun v1 =>
      if v1 = 0 then
        fItems_misplaced_b32 s (fItems_misplaced_h4 s n) x1 x2 x3 (s.1 124 (ix x3)) (cI 0)
      else
        fItems_misplaced_b32 s (fItems_misplaced_h4 s n) x1 x2 x3 (s.1 124 (ix x3)) (cI 1)
      else none
    else
      some x2
def fItems_misplaced (s : ev_M) (a1 : Int32) : Option Int32 :=
  fItems_misplaced_h4 s 1048576 a1 (cI 0) (cI 0)
def fArr_fillI_124_h5 : Nat → ev_M → Int32 → Int32 → Int32 → Option ev_M
  | 0, _, _, _, _ => none
  | n + 1, s, x1, x2, x3 =>
    if x2 < x3 then
      if inb x2 300 = true then
      ltM (wI s 124 (ix x2) x1) fun s1 =>
      (fArr_fillI_124_h5 n) s1 x1 (x2 + cI 1) x3
      else none
    else
      some s
def fArr_fillI_124 (s : ev_M) (a1 : Int32) : Option ev_M :=
  fArr_fillI_124_h5 1048576 s a1 (cI 0) (cI 300)
def fLines_misplaced_h25 (k15 : ev_M → Int32 → Option (ev_M × Int32)) : Nat → ev_M → Int32 → Int32 → Option (ev_M × Int32)
  | 0, _, _, _ => none
  | n + 1, s, x2, x3 =>
    if inb x2 80 = true then
    if x3 < (s.1 (459 + (ix (cI 3))) (ix x2)) then
      if inb x2 80 = true then
      if inb x3 40 = true then
      if inb (s.1 (466 + (ix x2)) (ix x3)) 300 = true then
      if inb (s.1 (466 + (ix x2)) (ix x3)) 300 = true then
      ltM (wI s 124 (ix (s.1 (466 + (ix x2)) (ix x3))) ((s.1 124 (ix (s.1 (466 + (ix x2)) (ix x3)))) + (cI 1))) fun s1 =>
      (fLines_misplaced_h25 k15 n) s1 x2 (x3 + cI 1)
      else none
      else none
      else none
      else none
    else
      k15 s (x2 + cI 1)
    else none
def fLines_misplaced_h15 : Nat → ev_M → Int32 → Option (ev_M × Int32)
  | 0, _, _ => none
  | n + 1, s, x2 =>
    if x2 < (s.1 449 6) then
      fLines_misplaced_h25 (fLines_misplaced_h15 n) 1048576 s x2 (cI 0)
    else
      bd1 (fItems_misplaced s (cI 2)) fun v2 =>
      some (s, v2)
def fLines_misplaced (s : ev_M) : Option (ev_M × Int32) :=
  bd1 (fArr_fillI_124 s (cI 0)) fun s3 =>
  fLines_misplaced_h15 1048576 s3 (cI 0)
def fRounds_misplaced_h25 (k15 : ev_M → Int32 → Option (ev_M × Int32)) : Nat → ev_M → Int32 → Int32 → Option (ev_M × Int32)
  | 0, _, _, _ => none
  | n + 1, s, x2, x3 =>
    if inb x2 12 = true then
    if x3 < (s.1 (140 + (ix (cI 4))) (ix x2)) then
      if inb x2 12 = true then
      if inb x3 300 = true then
      if inb (s.1 (160 + (ix x2)) (ix x3)) 300 = true then
      if inb (s.1 (160 + (ix x2)) (ix x3)) 300 = true then
      ltM (wI s 124 (ix (s.1 (160 + (ix x2)) (ix x3))) ((s.1 124 (ix (s.1 (160 + (ix x2)) (ix x3)))) + (cI 1))) fun s1 =>
      (fRounds_misplaced_h25 k15 n) s1 x2 (x3 + cI 1)
      else none
      else none
      else none
      else none
    else
      k15 s (x2 + cI 1)
    else none
def fRounds_misplaced_h15 : Nat → ev_M → Int32 → Option (ev_M × Int32)
  | 0, _, _ => none
  | n + 1, s, x2 =>
    if x2 < (s.1 138 3) then
      fRounds_misplaced_h25 (fRounds_misplaced_h15 n) 1048576 s x2 (cI 0)
    else
      bd1 (fItems_misplaced s (cI 3)) fun v2 =>
      some (s, v2)
def fRounds_misplaced (s : ev_M) : Option (ev_M × Int32) :=
  bd1 (fArr_fillI_124 s (cI 0)) fun s3 =>
  fRounds_misplaced_h15 1048576 s3 (cI 0)
def fLock_misplaced_b67 (k15 : ev_M → Int32 → Option (ev_M × Int32)) (k25 : ev_M → Int32 → Int32 → Option (ev_M × Int32)) (s : ev_M) (x2 : Int32) (x3 : Int32) : Option (ev_M × Int32) :=
  k25 s x2 (x3 + cI 1)
def fLock_misplaced_h25 (k15 : ev_M → Int32 → Option (ev_M × Int32)) : Nat → ev_M → Int32 → Int32 → Option (ev_M × Int32)
  | 0, _, _, _ => none
  | n + 1, s, x2, x3 =>
    if inb x2 8 = true then
    if x3 < (s.1 127 (ix x2)) then
      if inb x2 8 = true then
      if inb x3 10 = true then
      bd1 (fItems_has s (s.1 (130 + (ix x2)) (ix x3))) fun v1 =>
      if v1 = 0 then
        fLock_misplaced_b67 k15 (fLock_misplaced_h25 k15 n) s x2 x3
      else
        if inb x2 8 = true then
        if inb x3 10 = true then
        if inb (s.1 (130 + (ix x2)) (ix x3)) 300 = true then
        if inb (s.1 (130 + (ix x2)) (ix x3)) 300 = true then
        ltM (wI s 124 (ix (s.1 (130 + (ix x2)) (ix x3))) ((s.1 124 (ix (s.1 (130 + (ix x2)) (ix x3)))) + (cI 1))) fun s2 =>
        fLock_misplaced_b67 k15 (fLock_misplaced_h25 k15 n) s2 x2 x3
        else none
        else none
        else none
        else none
      else none
      else none
    else
      k15 s (x2 + cI 1)
    else none
def fLock_misplaced_b124 (k83 : ev_M → Int32 → Int32 → Option (ev_M × Int32)) (s : ev_M) (x2 : Int32) (x3 : Int32) : Option (ev_M × Int32) :=
  k83 s x2 (x3 + cI 1)
def fLock_misplaced_b118 (k83 : ev_M → Int32 → Int32 → Option (ev_M × Int32)) (s : ev_M) (x2 : Int32) (x3 : Int32) (y0 : Int32) (y1 : Int32) : Option (ev_M × Int32) :=
  if y0 = y1 then
    fLock_misplaced_b124 k83 s x2 x3
  else
    fLock_misplaced_b124 k83 s (x2 + cI 1) x3
def fLock_misplaced_h83 : Nat → ev_M → Int32 → Int32 → Option (ev_M × Int32)
  | 0, _, _, _ => none
  | n + 1, s, x2, x3 =>
    if x3 < (s.1 100 5) then
      if inb x3 300 = true then
      if inb x3 300 = true then
      if (s.1 (102 + (ix (cI 15))) (ix x3)) = (cI (-1)) then
        fLock_misplaced_b118 (fLock_misplaced_h83 n) s x2 x3 (s.1 124 (ix x3)) (cI 0)
      else
        fLock_misplaced_b118 (fLock_misplaced_h83 n) s x2 x3 (s.1 124 (ix x3)) (cI 1)
      else none
      else none
    else
      some (s, x2)
def fLock_misplaced_h15 : Nat → ev_M → Int32 → Option (ev_M × Int32)
  | 0, _, _ => none
  | n + 1, s, x2 =>
    if x2 < (s.1 125 3) then
      fLock_misplaced_h25 (fLock_misplaced_h15 n) 1048576 s x2 (cI 0)
    else
      fLock_misplaced_h83 1048576 s (cI 0) (cI 0)
def fLock_misplaced (s : ev_M) : Option (ev_M × Int32) :=
  bd1 (fArr_fillI_124 s (cI 0)) fun s3 =>
  fLock_misplaced_h15 1048576 s3 (cI 0)
def fPH_audit (s : ev_M) : Option (ev_M × Int32) :=
  if (s.1 9 9) = 0 then
    bd1 (fMoney_faults s) fun v1 =>
    bd1 (fLines_overladen s) fun v2 =>
    bd2 (fLines_misplaced s) fun s3 v4 =>
    bd2 (fRounds_misplaced s3) fun s5 v6 =>
    bd2 (fLock_misplaced s5) fun s7 v8 =>
    some (s7, ((((v1 + v2) + v4) + v6) + v8))
  else
    some (s, (cI (-105)))
def fM_audit (s : ev_M) : Option (ev_M × Int32) :=
  ltM (wI s 549 0 (cI 0)) fun s1 =>
  if (s1.1 549 5) = 0 then
    some (s1, (cI 0))
  else
    some (s1, (cI (-105)))
def fLaw_b3122 (k23 : ev_M → Int32 → Option (ev_M × Int32)) (s : ev_M) (x4 : Int32) : Option (ev_M × Int32) :=
  k23 s (x4 + cI 7)
def fLaw_b457 (k23 : ev_M → Int32 → Option (ev_M × Int32)) (s : ev_M) (x4 : Int32) : Option (ev_M × Int32) :=
  fLaw_b3122 k23 s x4
def fLaw_b637 (k23 : ev_M → Int32 → Option (ev_M × Int32)) (s : ev_M) (x4 : Int32) : Option (ev_M × Int32) :=
  fLaw_b3122 k23 s x4
def fLaw_b717 (k23 : ev_M → Int32 → Option (ev_M × Int32)) (s : ev_M) (x4 : Int32) : Option (ev_M × Int32) :=
  fLaw_b3122 k23 s x4
def fLaw_b3026 (k23 : ev_M → Int32 → Option (ev_M × Int32)) (s : ev_M) (x4 : Int32) (y0 : Int32) (y2 : Int32) (y3 : Int32) (y4 : Int32) : Option (ev_M × Int32) :=
  bd2 (fM_wish s y2 y3 y4) fun s1 v2 =>
  if y0 = v2 then
    fLaw_b3122 k23 s1 x4
  else
    some (s1, (cI 0))
def fLaw_b2996 (k23 : ev_M → Int32 → Option (ev_M × Int32)) (s : ev_M) (x4 : Int32) (y1 : Int32) (y2 : Int32) (y3 : Int32) : Option (ev_M × Int32) :=
  bd2 (fPH_wish s y1 y2 y3) fun s3 v4 =>
  if inb (x4 + (cI 1)) (ix (s3.1 1021 0)) = true then
  if inb (x4 + (cI 2)) (ix (s3.1 1021 0)) = true then
  if inb (x4 + (cI 3)) (ix (s3.1 1021 0)) = true then
  if (s3.1 1020 (ix (x4 + (cI 3)))) = 0 then
    fLaw_b3026 k23 s3 x4 v4 (s3.1 1020 (ix (x4 + (cI 1)))) (s3.1 1020 (ix (x4 + (cI 2)))) (cI 0)
  else
    fLaw_b3026 k23 s3 x4 v4 (s3.1 1020 (ix (x4 + (cI 1)))) (s3.1 1020 (ix (x4 + (cI 2)))) (cI 1)
  else none
  else none
  else none
def fLaw_h23 : Nat → ev_M → Int32 → Option (ev_M × Int32)
  | 0, _, _ => none
  | n + 1, s, x4 =>
    if x4 ≤ ((s.1 1021 0) - (cI 7)) then
      if inb x4 (ix (s.1 1021 0)) = true then
      if ((s.1 1020 (ix x4)) &&& (cI 127)) = cI 0 then
        if inb (x4 + (cI 1)) (ix (s.1 1021 0)) = true then
        if inb (x4 + (cI 2)) (ix (s.1 1021 0)) = true then
        if inb (x4 + (cI 3)) (ix (s.1 1021 0)) = true then
        if inb (x4 + (cI 4)) (ix (s.1 1021 0)) = true then
        if inb (x4 + (cI 5)) (ix (s.1 1021 0)) = true then
        bd2 (fFeed s (s.1 1020 (ix (x4 + (cI 1)))) (s.1 1020 (ix (x4 + (cI 2)))) (s.1 1020 (ix (x4 + (cI 3)))) (s.1 1020 (ix (x4 + (cI 4)))) (s.1 1020 (ix (x4 + (cI 5))))) fun s5 v6 =>
        if inb (x4 + (cI 1)) (ix (s5.1 1021 0)) = true then
        if inb (x4 + (cI 2)) (ix (s5.1 1021 0)) = true then
        if inb (x4 + (cI 3)) (ix (s5.1 1021 0)) = true then
        if inb (x4 + (cI 4)) (ix (s5.1 1021 0)) = true then
        if inb (x4 + (cI 5)) (ix (s5.1 1021 0)) = true then
        bd2 (fM_feed s5 (s5.1 1020 (ix (x4 + (cI 1)))) (s5.1 1020 (ix (x4 + (cI 2)))) (s5.1 1020 (ix (x4 + (cI 3)))) (s5.1 1020 (ix (x4 + (cI 4)))) (s5.1 1020 (ix (x4 + (cI 5))))) fun s7 v8 =>
        bd1 (fM_thrown s7) fun v9 =>
        if v9 = v6 then
          if v6 = 0 then
            if (lg_cmp (s7.2.1 681 (ix (cI 0))) (Int32.toInt64 v8)) = 0 then
              fLaw_b457 (fLaw_h23 n) s7 x4
            else
              some (s7, (cI 0))
          else
            fLaw_b457 (fLaw_h23 n) s7 x4
        else
          some (s7, (cI 0))
        else none
        else none
        else none
        else none
        else none
        else none
        else none
        else none
        else none
        else none
      else
      if ((s.1 1020 (ix x4)) &&& (cI 127)) = cI 1 then
        if inb (x4 + (cI 1)) (ix (s.1 1021 0)) = true then
        bd2 (fEnd s (s.1 1020 (ix (x4 + (cI 1))))) fun s10 v11 =>
        if inb (x4 + (cI 1)) (ix (s10.1 1021 0)) = true then
        bd1 (fM_end s10 (s10.1 1020 (ix (x4 + (cI 1))))) fun s12 =>
        bd1 (fM_thrown s12) fun v13 =>
        if v13 = v11 then
          fLaw_b3122 (fLaw_h23 n) s12 x4
        else
          some (s12, (cI 0))
        else none
        else none
      else
      if ((s.1 1020 (ix x4)) &&& (cI 127)) = cI 2 then
        bd2 (fPH_sync s) fun s14 v15 =>
        bd2 (fM_sync s14) fun s16 v17 =>
        if v15 = v17 then
          fLaw_b3122 (fLaw_h23 n) s16 x4
        else
          some (s16, (cI 0))
      else
      if ((s.1 1020 (ix x4)) &&& (cI 127)) = cI 3 then
        if inb (x4 + (cI 1)) (ix (s.1 1021 0)) = true then
        if inb (x4 + (cI 2)) (ix (s.1 1021 0)) = true then
        bd2 (fPH_cut s (s.1 1020 (ix (x4 + (cI 1)))) (s.1 1020 (ix (x4 + (cI 2))))) fun s18 v19 =>
        if inb (x4 + (cI 1)) (ix (s18.1 1021 0)) = true then
        if inb (x4 + (cI 2)) (ix (s18.1 1021 0)) = true then
        bd2 (fM_cut s18 (s18.1 1020 (ix (x4 + (cI 1)))) (s18.1 1020 (ix (x4 + (cI 2))))) fun s20 v21 =>
        if v19 = v21 then
          fLaw_b3122 (fLaw_h23 n) s20 x4
        else
          some (s20, (cI 0))
        else none
        else none
        else none
        else none
      else
      if ((s.1 1020 (ix x4)) &&& (cI 127)) = cI 4 then
        bd2 (fPH_start s) fun s22 v23 =>
        bd2 (fM_start s22) fun s24 v25 =>
        if v23 = v25 then
          fLaw_b3122 (fLaw_h23 n) s24 x4
        else
          some (s24, (cI 0))
      else
      if ((s.1 1020 (ix x4)) &&& (cI 127)) = cI 5 then
        bd1 (fPH_verify s) fun v26 =>
        bd2 (fM_verify s) fun s27 v28 =>
        if v26 = v28 then
          fLaw_b3122 (fLaw_h23 n) s27 x4
        else
          some (s27, (cI 0))
      else
      if ((s.1 1020 (ix x4)) &&& (cI 127)) = cI 6 then
        if inb (x4 + (cI 1)) (ix (s.1 1021 0)) = true then
        if inb (x4 + (cI 2)) (ix (s.1 1021 0)) = true then
        bd2 (fOctet s (s.1 1020 (ix (x4 + (cI 1)))) (s.1 1020 (ix (x4 + (cI 2))))) fun s29 v30 =>
        if inb (x4 + (cI 1)) (ix (s29.1 1021 0)) = true then
        if inb (x4 + (cI 2)) (ix (s29.1 1021 0)) = true then
        bd2 (fM_octet s29 (s29.1 1020 (ix (x4 + (cI 1)))) (s29.1 1020 (ix (x4 + (cI 2))))) fun s31 v32 =>
        bd1 (fM_thrown s31) fun v33 =>
        if v33 = v30 then
          if v30 = 0 then
            if (lg_cmp (s31.2.1 681 (ix (cI 0))) (Int32.toInt64 v32)) = 0 then
              fLaw_b637 (fLaw_h23 n) s31 x4
            else
              some (s31, (cI 0))
          else
            fLaw_b637 (fLaw_h23 n) s31 x4
        else
          some (s31, (cI 0))
        else none
        else none
        else none
        else none
      else
      if ((s.1 1020 (ix x4)) &&& (cI 127)) = cI 7 then
        if inb (x4 + (cI 1)) (ix (s.1 1021 0)) = true then
        if inb (x4 + (cI 2)) (ix (s.1 1021 0)) = true then
        if inb (x4 + (cI 3)) (ix (s.1 1021 0)) = true then
        bd2 (fPoke s (s.1 1020 (ix (x4 + (cI 1)))) (s.1 1020 (ix (x4 + (cI 2)))) (s.1 1020 (ix (x4 + (cI 3))))) fun s34 v35 =>
        if inb (x4 + (cI 1)) (ix (s34.1 1021 0)) = true then
        if inb (x4 + (cI 2)) (ix (s34.1 1021 0)) = true then
        if inb (x4 + (cI 3)) (ix (s34.1 1021 0)) = true then
        bd2 (fM_poke s34 (s34.1 1020 (ix (x4 + (cI 1)))) (s34.1 1020 (ix (x4 + (cI 2)))) (s34.1 1020 (ix (x4 + (cI 3))))) fun s36 v37 =>
        bd1 (fM_thrown s36) fun v38 =>
        if v38 = v35 then
          if v35 = 0 then
            if (lg_cmp (s36.2.1 681 (ix (cI 0))) (Int32.toInt64 v37)) = 0 then
              fLaw_b717 (fLaw_h23 n) s36 x4
            else
              some (s36, (cI 0))
          else
            fLaw_b717 (fLaw_h23 n) s36 x4
        else
          some (s36, (cI 0))
        else none
        else none
        else none
        else none
        else none
        else none
      else
      if ((s.1 1020 (ix x4)) &&& (cI 127)) = cI 8 then
        if inb (x4 + (cI 1)) (ix (s.1 1021 0)) = true then
        bd1 (fPH_count s (s.1 1020 (ix (x4 + (cI 1))))) fun v39 =>
        if inb (x4 + (cI 1)) (ix (s.1 1021 0)) = true then
        bd2 (fM_count s (s.1 1020 (ix (x4 + (cI 1))))) fun s40 v41 =>
        if v39 = v41 then
          fLaw_b3122 (fLaw_h23 n) s40 x4
        else
          some (s40, (cI 0))
        else none
        else none
      else
      if ((s.1 1020 (ix x4)) &&& (cI 127)) = cI 9 then
        bd2 (fPH_book s) fun s42 v43 =>
        bd2 (fM_book s42) fun s44 v45 =>
        if v43 = v45 then
          fLaw_b3122 (fLaw_h23 n) s44 x4
        else
          some (s44, (cI 0))
      else
      if ((s.1 1020 (ix x4)) &&& (cI 127)) = cI 10 then
        if inb (x4 + (cI 1)) (ix (s.1 1021 0)) = true then
        if inb (x4 + (cI 2)) (ix (s.1 1021 0)) = true then
        if inb (x4 + (cI 3)) (ix (s.1 1021 0)) = true then
        if inb (x4 + (cI 4)) (ix (s.1 1021 0)) = true then
        bd2 (fPH_forward s (s.1 1020 (ix (x4 + (cI 1)))) (s.1 1020 (ix (x4 + (cI 2)))) (s.1 1020 (ix (x4 + (cI 3)))) (s.1 1020 (ix (x4 + (cI 4))))) fun s46 v47 =>
        if inb (x4 + (cI 1)) (ix (s46.1 1021 0)) = true then
        if inb (x4 + (cI 2)) (ix (s46.1 1021 0)) = true then
        if inb (x4 + (cI 3)) (ix (s46.1 1021 0)) = true then
        if inb (x4 + (cI 4)) (ix (s46.1 1021 0)) = true then
        bd2 (fM_forward s46 (s46.1 1020 (ix (x4 + (cI 1)))) (s46.1 1020 (ix (x4 + (cI 2)))) (s46.1 1020 (ix (x4 + (cI 3)))) (s46.1 1020 (ix (x4 + (cI 4))))) fun s48 v49 =>
        if v47 = v49 then
          fLaw_b3122 (fLaw_h23 n) s48 x4
        else
          some (s48, (cI 0))
        else none
        else none
        else none
        else none
        else none
        else none
        else none
        else none
      else
      if ((s.1 1020 (ix x4)) &&& (cI 127)) = cI 11 then
        if inb (x4 + (cI 1)) (ix (s.1 1021 0)) = true then
        if inb (x4 + (cI 2)) (ix (s.1 1021 0)) = true then
        if inb (x4 + (cI 3)) (ix (s.1 1021 0)) = true then
        bd2 (fPH_hold s (s.1 1020 (ix (x4 + (cI 1)))) (s.1 1020 (ix (x4 + (cI 2)))) (s.1 1020 (ix (x4 + (cI 3))))) fun s50 v51 =>
        if inb (x4 + (cI 1)) (ix (s50.1 1021 0)) = true then
        if inb (x4 + (cI 2)) (ix (s50.1 1021 0)) = true then
        if inb (x4 + (cI 3)) (ix (s50.1 1021 0)) = true then
        bd2 (fM_hold s50 (s50.1 1020 (ix (x4 + (cI 1)))) (s50.1 1020 (ix (x4 + (cI 2)))) (s50.1 1020 (ix (x4 + (cI 3))))) fun s52 v53 =>
        if v51 = v53 then
          fLaw_b3122 (fLaw_h23 n) s52 x4
        else
          some (s52, (cI 0))
        else none
        else none
        else none
        else none
        else none
        else none
      else
      if ((s.1 1020 (ix x4)) &&& (cI 127)) = cI 12 then
        if inb (x4 + (cI 1)) (ix (s.1 1021 0)) = true then
        if inb (x4 + (cI 2)) (ix (s.1 1021 0)) = true then
        bd2 (fPH_effective s (s.1 1020 (ix (x4 + (cI 1)))) (s.1 1020 (ix (x4 + (cI 2))))) fun s54 v55 =>
        if inb (x4 + (cI 1)) (ix (s54.1 1021 0)) = true then
        if inb (x4 + (cI 2)) (ix (s54.1 1021 0)) = true then
        bd2 (fM_effective s54 (s54.1 1020 (ix (x4 + (cI 1)))) (s54.1 1020 (ix (x4 + (cI 2))))) fun s56 v57 =>
        if v55 = v57 then
          fLaw_b3122 (fLaw_h23 n) s56 x4
        else
          some (s56, (cI 0))
        else none
        else none
        else none
        else none
      else
      if ((s.1 1020 (ix x4)) &&& (cI 127)) = cI 13 then
        if inb (x4 + (cI 1)) (ix (s.1 1021 0)) = true then
        if inb (x4 + (cI 2)) (ix (s.1 1021 0)) = true then
        bd2 (fPH_lastPoint s (s.1 1020 (ix (x4 + (cI 1)))) (s.1 1020 (ix (x4 + (cI 2))))) fun s58 v59 =>
        if inb (x4 + (cI 1)) (ix (s58.1 1021 0)) = true then
        if inb (x4 + (cI 2)) (ix (s58.1 1021 0)) = true then
        bd2 (fM_lastPoint s58 (s58.1 1020 (ix (x4 + (cI 1)))) (s58.1 1020 (ix (x4 + (cI 2))))) fun s60 v61 =>
        if v59 = v61 then
          fLaw_b3122 (fLaw_h23 n) s60 x4
        else
          some (s60, (cI 0))
        else none
        else none
        else none
        else none
      else
      if ((s.1 1020 (ix x4)) &&& (cI 127)) = cI 14 then
        if inb (x4 + (cI 1)) (ix (s.1 1021 0)) = true then
        bd1 (fPH_find s (s.1 1020 (ix (x4 + (cI 1))))) fun v62 =>
        if inb (x4 + (cI 1)) (ix (s.1 1021 0)) = true then
        bd2 (fM_find s (s.1 1020 (ix (x4 + (cI 1))))) fun s63 v64 =>
        if v62 = v64 then
          fLaw_b3122 (fLaw_h23 n) s63 x4
        else
          some (s63, (cI 0))
        else none
        else none
      else
      if ((s.1 1020 (ix x4)) &&& (cI 127)) = cI 15 then
        if inb (x4 + (cI 1)) (ix (s.1 1021 0)) = true then
        if inb (x4 + (cI 2)) (ix (s.1 1021 0)) = true then
        bd1 (fPH_pointAt s (s.1 1020 (ix (x4 + (cI 1)))) (s.1 1020 (ix (x4 + (cI 2))))) fun v65 =>
        if inb (x4 + (cI 1)) (ix (s.1 1021 0)) = true then
        if inb (x4 + (cI 2)) (ix (s.1 1021 0)) = true then
        bd2 (fM_pointAt s (s.1 1020 (ix (x4 + (cI 1)))) (s.1 1020 (ix (x4 + (cI 2))))) fun s66 v67 =>
        if v65 = v67 then
          fLaw_b3122 (fLaw_h23 n) s66 x4
        else
          some (s66, (cI 0))
        else none
        else none
        else none
        else none
      else
      if ((s.1 1020 (ix x4)) &&& (cI 127)) = cI 16 then
        if inb (x4 + (cI 1)) (ix (s.1 1021 0)) = true then
        bd2 (fPH_sheet s (s.1 1020 (ix (x4 + (cI 1))))) fun s68 v69 =>
        if inb (x4 + (cI 1)) (ix (s68.1 1021 0)) = true then
        bd2 (fM_sheet s68 (s68.1 1020 (ix (x4 + (cI 1))))) fun s70 v71 =>
        if v69 = v71 then
          fLaw_b3122 (fLaw_h23 n) s70 x4
        else
          some (s70, (cI 0))
        else none
        else none
      else
      if ((s.1 1020 (ix x4)) &&& (cI 127)) = cI 17 then
        bd1 (fPH_read s) fun v72 =>
        bd2 (fM_read s) fun s73 v74 =>
        if v72 = v74 then
          fLaw_b3122 (fLaw_h23 n) s73 x4
        else
          some (s73, (cI 0))
      else
      if ((s.1 1020 (ix x4)) &&& (cI 127)) = cI 18 then
        if inb (x4 + (cI 1)) (ix (s.1 1021 0)) = true then
        if inb (x4 + (cI 2)) (ix (s.1 1021 0)) = true then
        bd1 (fPH_textLine s (s.1 1020 (ix (x4 + (cI 1)))) (s.1 1020 (ix (x4 + (cI 2))))) fun v75 =>
        if inb (x4 + (cI 1)) (ix (s.1 1021 0)) = true then
        if inb (x4 + (cI 2)) (ix (s.1 1021 0)) = true then
        bd2 (fM_textLine s (s.1 1020 (ix (x4 + (cI 1)))) (s.1 1020 (ix (x4 + (cI 2))))) fun s76 v77 =>
        if v75 = v77 then
          fLaw_b3122 (fLaw_h23 n) s76 x4
        else
          some (s76, (cI 0))
        else none
        else none
        else none
        else none
      else
      if ((s.1 1020 (ix x4)) &&& (cI 127)) = cI 19 then
        if inb (x4 + (cI 1)) (ix (s.1 1021 0)) = true then
        if inb (x4 + (cI 2)) (ix (s.1 1021 0)) = true then
        if inb (x4 + (cI 3)) (ix (s.1 1021 0)) = true then
        bd1 (fPH_sign s (s.1 1020 (ix (x4 + (cI 1)))) (s.1 1020 (ix (x4 + (cI 2)))) (s.1 1020 (ix (x4 + (cI 3))))) fun v78 =>
        if inb (x4 + (cI 1)) (ix (s.1 1021 0)) = true then
        if inb (x4 + (cI 2)) (ix (s.1 1021 0)) = true then
        if inb (x4 + (cI 3)) (ix (s.1 1021 0)) = true then
        bd2 (fM_sign s (s.1 1020 (ix (x4 + (cI 1)))) (s.1 1020 (ix (x4 + (cI 2)))) (s.1 1020 (ix (x4 + (cI 3))))) fun s79 v80 =>
        if v78 = v80 then
          fLaw_b3122 (fLaw_h23 n) s79 x4
        else
          some (s79, (cI 0))
        else none
        else none
        else none
        else none
        else none
        else none
      else
      if ((s.1 1020 (ix x4)) &&& (cI 127)) = cI 20 then
        if inb (x4 + (cI 1)) (ix (s.1 1021 0)) = true then
        if inb (x4 + (cI 2)) (ix (s.1 1021 0)) = true then
        if inb (x4 + (cI 3)) (ix (s.1 1021 0)) = true then
        if inb (x4 + (cI 4)) (ix (s.1 1021 0)) = true then
        if inb (x4 + (cI 5)) (ix (s.1 1021 0)) = true then
        if inb (x4 + (cI 6)) (ix (s.1 1021 0)) = true then
        bd2 (fPH_item s (s.1 1020 (ix (x4 + (cI 1)))) (s.1 1020 (ix (x4 + (cI 2)))) (s.1 1020 (ix (x4 + (cI 3)))) (s.1 1020 (ix (x4 + (cI 4)))) (s.1 1020 (ix (x4 + (cI 5)))) (s.1 1020 (ix (x4 + (cI 6))))) fun s81 v82 =>
        if inb (x4 + (cI 1)) (ix (s81.1 1021 0)) = true then
        if inb (x4 + (cI 2)) (ix (s81.1 1021 0)) = true then
        if inb (x4 + (cI 3)) (ix (s81.1 1021 0)) = true then
        if inb (x4 + (cI 4)) (ix (s81.1 1021 0)) = true then
        if inb (x4 + (cI 5)) (ix (s81.1 1021 0)) = true then
        if inb (x4 + (cI 6)) (ix (s81.1 1021 0)) = true then
        bd2 (fM_item s81 (s81.1 1020 (ix (x4 + (cI 1)))) (s81.1 1020 (ix (x4 + (cI 2)))) (s81.1 1020 (ix (x4 + (cI 3)))) (s81.1 1020 (ix (x4 + (cI 4)))) (s81.1 1020 (ix (x4 + (cI 5)))) (s81.1 1020 (ix (x4 + (cI 6))))) fun s83 v84 =>
        if v82 = v84 then
          fLaw_b3122 (fLaw_h23 n) s83 x4
        else
          some (s83, (cI 0))
        else none
        else none
        else none
        else none
        else none
        else none
        else none
        else none
        else none
        else none
        else none
        else none
      else
      if ((s.1 1020 (ix x4)) &&& (cI 127)) = cI 21 then
        if inb (x4 + (cI 1)) (ix (s.1 1021 0)) = true then
        if inb (x4 + (cI 2)) (ix (s.1 1021 0)) = true then
        bd2 (fPH_address s (s.1 1020 (ix (x4 + (cI 1)))) (s.1 1020 (ix (x4 + (cI 2))))) fun s85 v86 =>
        if inb (x4 + (cI 1)) (ix (s85.1 1021 0)) = true then
        if inb (x4 + (cI 2)) (ix (s85.1 1021 0)) = true then
        bd2 (fM_address s85 (s85.1 1020 (ix (x4 + (cI 1)))) (s85.1 1020 (ix (x4 + (cI 2))))) fun s87 v88 =>
        if v86 = v88 then
          fLaw_b3122 (fLaw_h23 n) s87 x4
        else
          some (s87, (cI 0))
        else none
        else none
        else none
        else none
      else
      if ((s.1 1020 (ix x4)) &&& (cI 127)) = cI 22 then
        if inb (x4 + (cI 1)) (ix (s.1 1021 0)) = true then
        bd2 (fPH_take s (s.1 1020 (ix (x4 + (cI 1))))) fun s89 v90 =>
        if inb (x4 + (cI 1)) (ix (s89.1 1021 0)) = true then
        bd2 (fM_take s89 (s89.1 1020 (ix (x4 + (cI 1))))) fun s91 v92 =>
        if v90 = v92 then
          fLaw_b3122 (fLaw_h23 n) s91 x4
        else
          some (s91, (cI 0))
        else none
        else none
      else
      if ((s.1 1020 (ix x4)) &&& (cI 127)) = cI 23 then
        if inb (x4 + (cI 1)) (ix (s.1 1021 0)) = true then
        if inb (x4 + (cI 2)) (ix (s.1 1021 0)) = true then
        if inb (x4 + (cI 3)) (ix (s.1 1021 0)) = true then
        bd2 (fPH_clerk s (s.1 1020 (ix (x4 + (cI 1)))) (s.1 1020 (ix (x4 + (cI 2)))) (s.1 1020 (ix (x4 + (cI 3))))) fun s93 v94 =>
        if inb (x4 + (cI 1)) (ix (s93.1 1021 0)) = true then
        if inb (x4 + (cI 2)) (ix (s93.1 1021 0)) = true then
        if inb (x4 + (cI 3)) (ix (s93.1 1021 0)) = true then
        bd2 (fM_clerk s93 (s93.1 1020 (ix (x4 + (cI 1)))) (s93.1 1020 (ix (x4 + (cI 2)))) (s93.1 1020 (ix (x4 + (cI 3))))) fun s95 v96 =>
        if v94 = v96 then
          fLaw_b3122 (fLaw_h23 n) s95 x4
        else
          some (s95, (cI 0))
        else none
        else none
        else none
        else none
        else none
        else none
      else
      if ((s.1 1020 (ix x4)) &&& (cI 127)) = cI 24 then
        if inb (x4 + (cI 1)) (ix (s.1 1021 0)) = true then
        if inb (x4 + (cI 2)) (ix (s.1 1021 0)) = true then
        bd2 (fPH_post s (s.1 1020 (ix (x4 + (cI 1)))) (s.1 1020 (ix (x4 + (cI 2))))) fun s97 v98 =>
        if inb (x4 + (cI 1)) (ix (s97.1 1021 0)) = true then
        if inb (x4 + (cI 2)) (ix (s97.1 1021 0)) = true then
        bd2 (fM_post s97 (s97.1 1020 (ix (x4 + (cI 1)))) (s97.1 1020 (ix (x4 + (cI 2))))) fun s99 v100 =>
        if v98 = v100 then
          fLaw_b3122 (fLaw_h23 n) s99 x4
        else
          some (s99, (cI 0))
        else none
        else none
        else none
        else none
      else
      if ((s.1 1020 (ix x4)) &&& (cI 127)) = cI 25 then
        if inb (x4 + (cI 1)) (ix (s.1 1021 0)) = true then
        if inb (x4 + (cI 2)) (ix (s.1 1021 0)) = true then
        bd2 (fPH_about s (s.1 1020 (ix (x4 + (cI 1)))) (s.1 1020 (ix (x4 + (cI 2))))) fun s101 v102 =>
        if inb (x4 + (cI 1)) (ix (s101.1 1021 0)) = true then
        if inb (x4 + (cI 2)) (ix (s101.1 1021 0)) = true then
        bd2 (fM_about s101 (s101.1 1020 (ix (x4 + (cI 1)))) (s101.1 1020 (ix (x4 + (cI 2))))) fun s103 v104 =>
        if v102 = v104 then
          fLaw_b3122 (fLaw_h23 n) s103 x4
        else
          some (s103, (cI 0))
        else none
        else none
        else none
        else none
      else
      if ((s.1 1020 (ix x4)) &&& (cI 127)) = cI 26 then
        if inb (x4 + (cI 1)) (ix (s.1 1021 0)) = true then
        if inb (x4 + (cI 2)) (ix (s.1 1021 0)) = true then
        bd2 (fPH_bar s (s.1 1020 (ix (x4 + (cI 1)))) (s.1 1020 (ix (x4 + (cI 2))))) fun s105 v106 =>
        if inb (x4 + (cI 1)) (ix (s105.1 1021 0)) = true then
        if inb (x4 + (cI 2)) (ix (s105.1 1021 0)) = true then
        bd2 (fM_bar s105 (s105.1 1020 (ix (x4 + (cI 1)))) (s105.1 1020 (ix (x4 + (cI 2))))) fun s107 v108 =>
        if v106 = v108 then
          fLaw_b3122 (fLaw_h23 n) s107 x4
        else
          some (s107, (cI 0))
        else none
        else none
        else none
        else none
      else
      if ((s.1 1020 (ix x4)) &&& (cI 127)) = cI 27 then
        bd2 (fPH_scan s) fun s109 v110 =>
        bd2 (fM_scan s109) fun s111 v112 =>
        if v110 = v112 then
          fLaw_b3122 (fLaw_h23 n) s111 x4
        else
          some (s111, (cI 0))
      else
      if ((s.1 1020 (ix x4)) &&& (cI 127)) = cI 28 then
        bd1 (fPH_mended s) fun v113 =>
        bd2 (fM_mended s) fun s114 v115 =>
        if v113 = v115 then
          fLaw_b3122 (fLaw_h23 n) s114 x4
        else
          some (s114, (cI 0))
      else
      if ((s.1 1020 (ix x4)) &&& (cI 127)) = cI 29 then
        if inb (x4 + (cI 1)) (ix (s.1 1021 0)) = true then
        if inb (x4 + (cI 2)) (ix (s.1 1021 0)) = true then
        if inb (x4 + (cI 3)) (ix (s.1 1021 0)) = true then
        if inb (x4 + (cI 4)) (ix (s.1 1021 0)) = true then
        bd2 (fPH_machine s (s.1 1020 (ix (x4 + (cI 1)))) (s.1 1020 (ix (x4 + (cI 2)))) (s.1 1020 (ix (x4 + (cI 3)))) (s.1 1020 (ix (x4 + (cI 4))))) fun s116 v117 =>
        if inb (x4 + (cI 1)) (ix (s116.1 1021 0)) = true then
        if inb (x4 + (cI 2)) (ix (s116.1 1021 0)) = true then
        if inb (x4 + (cI 3)) (ix (s116.1 1021 0)) = true then
        if inb (x4 + (cI 4)) (ix (s116.1 1021 0)) = true then
        bd2 (fM_machine s116 (s116.1 1020 (ix (x4 + (cI 1)))) (s116.1 1020 (ix (x4 + (cI 2)))) (s116.1 1020 (ix (x4 + (cI 3)))) (s116.1 1020 (ix (x4 + (cI 4))))) fun s118 v119 =>
        if v117 = v119 then
          fLaw_b3122 (fLaw_h23 n) s118 x4
        else
          some (s118, (cI 0))
        else none
        else none
        else none
        else none
        else none
        else none
        else none
        else none
      else
      if ((s.1 1020 (ix x4)) &&& (cI 127)) = cI 30 then
        if inb (x4 + (cI 1)) (ix (s.1 1021 0)) = true then
        if inb (x4 + (cI 2)) (ix (s.1 1021 0)) = true then
        if inb (x4 + (cI 3)) (ix (s.1 1021 0)) = true then
        bd2 (fPH_round s (s.1 1020 (ix (x4 + (cI 1)))) (s.1 1020 (ix (x4 + (cI 2)))) (s.1 1020 (ix (x4 + (cI 3))))) fun s120 v121 =>
        if inb (x4 + (cI 1)) (ix (s120.1 1021 0)) = true then
        if inb (x4 + (cI 2)) (ix (s120.1 1021 0)) = true then
        if inb (x4 + (cI 3)) (ix (s120.1 1021 0)) = true then
        bd2 (fM_round s120 (s120.1 1020 (ix (x4 + (cI 1)))) (s120.1 1020 (ix (x4 + (cI 2)))) (s120.1 1020 (ix (x4 + (cI 3))))) fun s122 v123 =>
        if v121 = v123 then
          fLaw_b3122 (fLaw_h23 n) s122 x4
        else
          some (s122, (cI 0))
        else none
        else none
        else none
        else none
        else none
        else none
      else
      if ((s.1 1020 (ix x4)) &&& (cI 127)) = cI 31 then
        if inb (x4 + (cI 1)) (ix (s.1 1021 0)) = true then
        if inb (x4 + (cI 2)) (ix (s.1 1021 0)) = true then
        bd2 (fPH_assign s (s.1 1020 (ix (x4 + (cI 1)))) (s.1 1020 (ix (x4 + (cI 2))))) fun s124 v125 =>
        if inb (x4 + (cI 1)) (ix (s124.1 1021 0)) = true then
        if inb (x4 + (cI 2)) (ix (s124.1 1021 0)) = true then
        bd2 (fM_assign s124 (s124.1 1020 (ix (x4 + (cI 1)))) (s124.1 1020 (ix (x4 + (cI 2))))) fun s126 v127 =>
        if v125 = v127 then
          fLaw_b3122 (fLaw_h23 n) s126 x4
        else
          some (s126, (cI 0))
        else none
        else none
        else none
        else none
      else
      if ((s.1 1020 (ix x4)) &&& (cI 127)) = cI 32 then
        if inb (x4 + (cI 1)) (ix (s.1 1021 0)) = true then
        bd2 (fPH_arrange s (s.1 1020 (ix (x4 + (cI 1))))) fun s128 v129 =>
        if inb (x4 + (cI 1)) (ix (s128.1 1021 0)) = true then
        bd2 (fM_arrange s128 (s128.1 1020 (ix (x4 + (cI 1))))) fun s130 v131 =>
        if v129 = v131 then
          fLaw_b3122 (fLaw_h23 n) s130 x4
        else
          some (s130, (cI 0))
        else none
        else none
      else
      if ((s.1 1020 (ix x4)) &&& (cI 127)) = cI 33 then
        if inb (x4 + (cI 1)) (ix (s.1 1021 0)) = true then
        if inb (x4 + (cI 2)) (ix (s.1 1021 0)) = true then
        bd1 (fPH_stop s (s.1 1020 (ix (x4 + (cI 1)))) (s.1 1020 (ix (x4 + (cI 2))))) fun v132 =>
        if inb (x4 + (cI 1)) (ix (s.1 1021 0)) = true then
        if inb (x4 + (cI 2)) (ix (s.1 1021 0)) = true then
        bd2 (fM_stop s (s.1 1020 (ix (x4 + (cI 1)))) (s.1 1020 (ix (x4 + (cI 2))))) fun s133 v134 =>
        if v132 = v134 then
          fLaw_b3122 (fLaw_h23 n) s133 x4
        else
          some (s133, (cI 0))
        else none
        else none
        else none
        else none
      else
      if ((s.1 1020 (ix x4)) &&& (cI 127)) = cI 34 then
        if inb (x4 + (cI 1)) (ix (s.1 1021 0)) = true then
        bd2 (fPH_sort s (s.1 1020 (ix (x4 + (cI 1))))) fun s135 v136 =>
        if inb (x4 + (cI 1)) (ix (s135.1 1021 0)) = true then
        bd2 (fM_sort s135 (s135.1 1020 (ix (x4 + (cI 1))))) fun s137 v138 =>
        if v136 = v138 then
          fLaw_b3122 (fLaw_h23 n) s137 x4
        else
          some (s137, (cI 0))
        else none
        else none
      else
      if ((s.1 1020 (ix x4)) &&& (cI 127)) = cI 35 then
        bd1 (fPH_passes s) fun v139 =>
        bd2 (fM_passes s) fun s140 v141 =>
        if v139 = v141 then
          fLaw_b3122 (fLaw_h23 n) s140 x4
        else
          some (s140, (cI 0))
      else
      if ((s.1 1020 (ix x4)) &&& (cI 127)) = cI 36 then
        if inb (x4 + (cI 1)) (ix (s.1 1021 0)) = true then
        bd1 (fPH_wrong s (s.1 1020 (ix (x4 + (cI 1))))) fun v142 =>
        if inb (x4 + (cI 1)) (ix (s.1 1021 0)) = true then
        bd2 (fM_wrong s (s.1 1020 (ix (x4 + (cI 1))))) fun s143 v144 =>
        if v142 = v144 then
          fLaw_b3122 (fLaw_h23 n) s143 x4
        else
          some (s143, (cI 0))
        else none
        else none
      else
      if ((s.1 1020 (ix x4)) &&& (cI 127)) = cI 37 then
        if inb (x4 + (cI 1)) (ix (s.1 1021 0)) = true then
        if inb (x4 + (cI 2)) (ix (s.1 1021 0)) = true then
        bd1 (fPH_row s (s.1 1020 (ix (x4 + (cI 1)))) (s.1 1020 (ix (x4 + (cI 2))))) fun v145 =>
        if inb (x4 + (cI 1)) (ix (s.1 1021 0)) = true then
        if inb (x4 + (cI 2)) (ix (s.1 1021 0)) = true then
        bd2 (fM_row s (s.1 1020 (ix (x4 + (cI 1)))) (s.1 1020 (ix (x4 + (cI 2))))) fun s146 v147 =>
        if v145 = v147 then
          fLaw_b3122 (fLaw_h23 n) s146 x4
        else
          some (s146, (cI 0))
        else none
        else none
        else none
        else none
      else
      if ((s.1 1020 (ix x4)) &&& (cI 127)) = cI 38 then
        if inb (x4 + (cI 1)) (ix (s.1 1021 0)) = true then
        bd2 (fPH_out s (s.1 1020 (ix (x4 + (cI 1))))) fun s148 v149 =>
        if inb (x4 + (cI 1)) (ix (s148.1 1021 0)) = true then
        bd2 (fM_out s148 (s148.1 1020 (ix (x4 + (cI 1))))) fun s150 v151 =>
        if v149 = v151 then
          fLaw_b3122 (fLaw_h23 n) s150 x4
        else
          some (s150, (cI 0))
        else none
        else none
      else
      if ((s.1 1020 (ix x4)) &&& (cI 127)) = cI 39 then
        if inb (x4 + (cI 1)) (ix (s.1 1021 0)) = true then
        if inb (x4 + (cI 2)) (ix (s.1 1021 0)) = true then
        if inb (x4 + (cI 3)) (ix (s.1 1021 0)) = true then
        if inb (x4 + (cI 4)) (ix (s.1 1021 0)) = true then
        if inb (x4 + (cI 5)) (ix (s.1 1021 0)) = true then
        bd2 (fPH_leg s (s.1 1020 (ix (x4 + (cI 1)))) (s.1 1020 (ix (x4 + (cI 2)))) (s.1 1020 (ix (x4 + (cI 3)))) (s.1 1020 (ix (x4 + (cI 4)))) (s.1 1020 (ix (x4 + (cI 5))))) fun s152 v153 =>
        if inb (x4 + (cI 1)) (ix (s152.1 1021 0)) = true then
        if inb (x4 + (cI 2)) (ix (s152.1 1021 0)) = true then
        if inb (x4 + (cI 3)) (ix (s152.1 1021 0)) = true then
        if inb (x4 + (cI 4)) (ix (s152.1 1021 0)) = true then
        if inb (x4 + (cI 5)) (ix (s152.1 1021 0)) = true then
        bd2 (fM_leg s152 (s152.1 1020 (ix (x4 + (cI 1)))) (s152.1 1020 (ix (x4 + (cI 2)))) (s152.1 1020 (ix (x4 + (cI 3)))) (s152.1 1020 (ix (x4 + (cI 4)))) (s152.1 1020 (ix (x4 + (cI 5))))) fun s154 v155 =>
        if v153 = v155 then
          fLaw_b3122 (fLaw_h23 n) s154 x4
        else
          some (s154, (cI 0))
        else none
        else none
        else none
        else none
        else none
        else none
        else none
        else none
        else none
        else none
      else
      if ((s.1 1020 (ix x4)) &&& (cI 127)) = cI 40 then
        if inb (x4 + (cI 1)) (ix (s.1 1021 0)) = true then
        if inb (x4 + (cI 2)) (ix (s.1 1021 0)) = true then
        bd2 (fPH_late s (s.1 1020 (ix (x4 + (cI 1)))) (s.1 1020 (ix (x4 + (cI 2))))) fun s156 v157 =>
        if inb (x4 + (cI 1)) (ix (s156.1 1021 0)) = true then
        if inb (x4 + (cI 2)) (ix (s156.1 1021 0)) = true then
        bd2 (fM_late s156 (s156.1 1020 (ix (x4 + (cI 1)))) (s156.1 1020 (ix (x4 + (cI 2))))) fun s158 v159 =>
        if v157 = v159 then
          fLaw_b3122 (fLaw_h23 n) s158 x4
        else
          some (s158, (cI 0))
        else none
        else none
        else none
        else none
      else
      if ((s.1 1020 (ix x4)) &&& (cI 127)) = cI 41 then
        if inb (x4 + (cI 1)) (ix (s.1 1021 0)) = true then
        if inb (x4 + (cI 2)) (ix (s.1 1021 0)) = true then
        bd2 (fPH_bag s (s.1 1020 (ix (x4 + (cI 1)))) (s.1 1020 (ix (x4 + (cI 2))))) fun s160 v161 =>
        if inb (x4 + (cI 1)) (ix (s160.1 1021 0)) = true then
        if inb (x4 + (cI 2)) (ix (s160.1 1021 0)) = true then
        bd2 (fM_bag s160 (s160.1 1020 (ix (x4 + (cI 1)))) (s160.1 1020 (ix (x4 + (cI 2))))) fun s162 v163 =>
        if v161 = v163 then
          fLaw_b3122 (fLaw_h23 n) s162 x4
        else
          some (s162, (cI 0))
        else none
        else none
        else none
        else none
      else
      if ((s.1 1020 (ix x4)) &&& (cI 127)) = cI 42 then
        if inb (x4 + (cI 1)) (ix (s.1 1021 0)) = true then
        if inb (x4 + (cI 2)) (ix (s.1 1021 0)) = true then
        bd2 (fPH_into s (s.1 1020 (ix (x4 + (cI 1)))) (s.1 1020 (ix (x4 + (cI 2))))) fun s164 v165 =>
        if inb (x4 + (cI 1)) (ix (s164.1 1021 0)) = true then
        if inb (x4 + (cI 2)) (ix (s164.1 1021 0)) = true then
        bd2 (fM_into s164 (s164.1 1020 (ix (x4 + (cI 1)))) (s164.1 1020 (ix (x4 + (cI 2))))) fun s166 v167 =>
        if v165 = v167 then
          fLaw_b3122 (fLaw_h23 n) s166 x4
        else
          some (s166, (cI 0))
        else none
        else none
        else none
        else none
      else
      if ((s.1 1020 (ix x4)) &&& (cI 127)) = cI 43 then
        if inb (x4 + (cI 1)) (ix (s.1 1021 0)) = true then
        bd2 (fPH_closeBag s (s.1 1020 (ix (x4 + (cI 1))))) fun s168 v169 =>
        if inb (x4 + (cI 1)) (ix (s168.1 1021 0)) = true then
        bd2 (fM_closeBag s168 (s168.1 1020 (ix (x4 + (cI 1))))) fun s170 v171 =>
        if v169 = v171 then
          fLaw_b3122 (fLaw_h23 n) s170 x4
        else
          some (s170, (cI 0))
        else none
        else none
      else
      if ((s.1 1020 (ix x4)) &&& (cI 127)) = cI 44 then
        if inb (x4 + (cI 1)) (ix (s.1 1021 0)) = true then
        bd2 (fPH_openBag s (s.1 1020 (ix (x4 + (cI 1))))) fun s172 v173 =>
        if inb (x4 + (cI 1)) (ix (s172.1 1021 0)) = true then
        bd2 (fM_openBag s172 (s172.1 1020 (ix (x4 + (cI 1))))) fun s174 v175 =>
        if v173 = v175 then
          fLaw_b3122 (fLaw_h23 n) s174 x4
        else
          some (s174, (cI 0))
        else none
        else none
      else
      if ((s.1 1020 (ix x4)) &&& (cI 127)) = cI 45 then
        if inb (x4 + (cI 1)) (ix (s.1 1021 0)) = true then
        if inb (x4 + (cI 2)) (ix (s.1 1021 0)) = true then
        bd1 (fPH_bagAt s (s.1 1020 (ix (x4 + (cI 1)))) (s.1 1020 (ix (x4 + (cI 2))))) fun v176 =>
        if inb (x4 + (cI 1)) (ix (s.1 1021 0)) = true then
        if inb (x4 + (cI 2)) (ix (s.1 1021 0)) = true then
        bd2 (fM_bagAt s (s.1 1020 (ix (x4 + (cI 1)))) (s.1 1020 (ix (x4 + (cI 2))))) fun s177 v178 =>
        if v176 = v178 then
          fLaw_b3122 (fLaw_h23 n) s177 x4
        else
          some (s177, (cI 0))
        else none
        else none
        else none
        else none
      else
      if ((s.1 1020 (ix x4)) &&& (cI 127)) = cI 46 then
        if inb (x4 + (cI 1)) (ix (s.1 1021 0)) = true then
        if inb (x4 + (cI 2)) (ix (s.1 1021 0)) = true then
        if inb (x4 + (cI 3)) (ix (s.1 1021 0)) = true then
        bd2 (fPH_way s (s.1 1020 (ix (x4 + (cI 1)))) (s.1 1020 (ix (x4 + (cI 2)))) (s.1 1020 (ix (x4 + (cI 3))))) fun s179 v180 =>
        if inb (x4 + (cI 1)) (ix (s179.1 1021 0)) = true then
        if inb (x4 + (cI 2)) (ix (s179.1 1021 0)) = true then
        if inb (x4 + (cI 3)) (ix (s179.1 1021 0)) = true then
        bd2 (fM_way s179 (s179.1 1020 (ix (x4 + (cI 1)))) (s179.1 1020 (ix (x4 + (cI 2)))) (s179.1 1020 (ix (x4 + (cI 3))))) fun s181 v182 =>
        if v180 = v182 then
          fLaw_b3122 (fLaw_h23 n) s181 x4
        else
          some (s181, (cI 0))
        else none
        else none
        else none
        else none
        else none
        else none
      else
      if ((s.1 1020 (ix x4)) &&& (cI 127)) = cI 47 then
        if inb (x4 + (cI 1)) (ix (s.1 1021 0)) = true then
        if inb (x4 + (cI 2)) (ix (s.1 1021 0)) = true then
        if inb (x4 + (cI 3)) (ix (s.1 1021 0)) = true then
        if inb (x4 + (cI 4)) (ix (s.1 1021 0)) = true then
        bd2 (fPH_hand s (s.1 1020 (ix (x4 + (cI 1)))) (s.1 1020 (ix (x4 + (cI 2)))) (s.1 1020 (ix (x4 + (cI 3)))) (s.1 1020 (ix (x4 + (cI 4))))) fun s183 v184 =>
        if inb (x4 + (cI 1)) (ix (s183.1 1021 0)) = true then
        if inb (x4 + (cI 2)) (ix (s183.1 1021 0)) = true then
        if inb (x4 + (cI 3)) (ix (s183.1 1021 0)) = true then
        if inb (x4 + (cI 4)) (ix (s183.1 1021 0)) = true then
        bd2 (fM_hand s183 (s183.1 1020 (ix (x4 + (cI 1)))) (s183.1 1020 (ix (x4 + (cI 2)))) (s183.1 1020 (ix (x4 + (cI 3)))) (s183.1 1020 (ix (x4 + (cI 4))))) fun s185 v186 =>
        if v184 = v186 then
          fLaw_b3122 (fLaw_h23 n) s185 x4
        else
          some (s185, (cI 0))
        else none
        else none
        else none
        else none
        else none
        else none
        else none
        else none
      else
      if ((s.1 1020 (ix x4)) &&& (cI 127)) = cI 48 then
        if inb (x4 + (cI 1)) (ix (s.1 1021 0)) = true then
        bd2 (fPH_miss s (s.1 1020 (ix (x4 + (cI 1))))) fun s187 v188 =>
        if inb (x4 + (cI 1)) (ix (s187.1 1021 0)) = true then
        bd2 (fM_miss s187 (s187.1 1020 (ix (x4 + (cI 1))))) fun s189 v190 =>
        if v188 = v190 then
          fLaw_b3122 (fLaw_h23 n) s189 x4
        else
          some (s189, (cI 0))
        else none
        else none
      else
      if ((s.1 1020 (ix x4)) &&& (cI 127)) = cI 49 then
        if inb (x4 + (cI 1)) (ix (s.1 1021 0)) = true then
        bd2 (fPH_refuse s (s.1 1020 (ix (x4 + (cI 1))))) fun s191 v192 =>
        if inb (x4 + (cI 1)) (ix (s191.1 1021 0)) = true then
        bd2 (fM_refuse s191 (s191.1 1020 (ix (x4 + (cI 1))))) fun s193 v194 =>
        if v192 = v194 then
          fLaw_b3122 (fLaw_h23 n) s193 x4
        else
          some (s193, (cI 0))
        else none
        else none
      else
      if ((s.1 1020 (ix x4)) &&& (cI 127)) = cI 50 then
        if inb (x4 + (cI 1)) (ix (s.1 1021 0)) = true then
        if inb (x4 + (cI 2)) (ix (s.1 1021 0)) = true then
        bd2 (fPH_put s (s.1 1020 (ix (x4 + (cI 1)))) (s.1 1020 (ix (x4 + (cI 2))))) fun s195 v196 =>
        if inb (x4 + (cI 1)) (ix (s195.1 1021 0)) = true then
        if inb (x4 + (cI 2)) (ix (s195.1 1021 0)) = true then
        bd2 (fM_put s195 (s195.1 1020 (ix (x4 + (cI 1)))) (s195.1 1020 (ix (x4 + (cI 2))))) fun s197 v198 =>
        if v196 = v198 then
          fLaw_b3122 (fLaw_h23 n) s197 x4
        else
          some (s197, (cI 0))
        else none
        else none
        else none
        else none
      else
      if ((s.1 1020 (ix x4)) &&& (cI 127)) = cI 51 then
        if inb (x4 + (cI 1)) (ix (s.1 1021 0)) = true then
        if inb (x4 + (cI 2)) (ix (s.1 1021 0)) = true then
        if inb (x4 + (cI 3)) (ix (s.1 1021 0)) = true then
        if inb (x4 + (cI 4)) (ix (s.1 1021 0)) = true then
        bd2 (fPH_pickUp s (s.1 1020 (ix (x4 + (cI 1)))) (s.1 1020 (ix (x4 + (cI 2)))) (s.1 1020 (ix (x4 + (cI 3)))) (s.1 1020 (ix (x4 + (cI 4))))) fun s199 v200 =>
        if inb (x4 + (cI 1)) (ix (s199.1 1021 0)) = true then
        if inb (x4 + (cI 2)) (ix (s199.1 1021 0)) = true then
        if inb (x4 + (cI 3)) (ix (s199.1 1021 0)) = true then
        if inb (x4 + (cI 4)) (ix (s199.1 1021 0)) = true then
        bd2 (fM_pickUp s199 (s199.1 1020 (ix (x4 + (cI 1)))) (s199.1 1020 (ix (x4 + (cI 2)))) (s199.1 1020 (ix (x4 + (cI 3)))) (s199.1 1020 (ix (x4 + (cI 4))))) fun s201 v202 =>
        if v200 = v202 then
          fLaw_b3122 (fLaw_h23 n) s201 x4
        else
          some (s201, (cI 0))
        else none
        else none
        else none
        else none
        else none
        else none
        else none
        else none
      else
      if ((s.1 1020 (ix x4)) &&& (cI 127)) = cI 52 then
        if inb (x4 + (cI 1)) (ix (s.1 1021 0)) = true then
        if inb (x4 + (cI 2)) (ix (s.1 1021 0)) = true then
        bd2 (fPH_openBox s (s.1 1020 (ix (x4 + (cI 1)))) (s.1 1020 (ix (x4 + (cI 2))))) fun s203 v204 =>
        if inb (x4 + (cI 1)) (ix (s203.1 1021 0)) = true then
        if inb (x4 + (cI 2)) (ix (s203.1 1021 0)) = true then
        bd2 (fM_openBox s203 (s203.1 1020 (ix (x4 + (cI 1)))) (s203.1 1020 (ix (x4 + (cI 2))))) fun s205 v206 =>
        if v204 = v206 then
          fLaw_b3122 (fLaw_h23 n) s205 x4
        else
          some (s205, (cI 0))
        else none
        else none
        else none
        else none
      else
      if ((s.1 1020 (ix x4)) &&& (cI 127)) = cI 53 then
        if inb (x4 + (cI 1)) (ix (s.1 1021 0)) = true then
        bd2 (fPH_lose s (s.1 1020 (ix (x4 + (cI 1))))) fun s207 v208 =>
        if inb (x4 + (cI 1)) (ix (s207.1 1021 0)) = true then
        bd2 (fM_lose s207 (s207.1 1020 (ix (x4 + (cI 1))))) fun s209 v210 =>
        if v208 = v210 then
          fLaw_b3122 (fLaw_h23 n) s209 x4
        else
          some (s209, (cI 0))
        else none
        else none
      else
      if ((s.1 1020 (ix x4)) &&& (cI 127)) = cI 54 then
        if inb (x4 + (cI 1)) (ix (s.1 1021 0)) = true then
        bd2 (fPH_account s (s.1 1020 (ix (x4 + (cI 1))))) fun s211 v212 =>
        if inb (x4 + (cI 1)) (ix (s211.1 1021 0)) = true then
        bd2 (fM_account s211 (s211.1 1020 (ix (x4 + (cI 1))))) fun s213 v214 =>
        if v212 = v214 then
          fLaw_b3122 (fLaw_h23 n) s213 x4
        else
          some (s213, (cI 0))
        else none
        else none
      else
      if ((s.1 1020 (ix x4)) &&& (cI 127)) = cI 55 then
        if inb (x4 + (cI 1)) (ix (s.1 1021 0)) = true then
        if inb (x4 + (cI 2)) (ix (s.1 1021 0)) = true then
        bd2 (fPH_deposit s (s.1 1020 (ix (x4 + (cI 1)))) (s.1 1020 (ix (x4 + (cI 2))))) fun s215 v216 =>
        if inb (x4 + (cI 1)) (ix (s215.1 1021 0)) = true then
        if inb (x4 + (cI 2)) (ix (s215.1 1021 0)) = true then
        bd2 (fM_deposit s215 (s215.1 1020 (ix (x4 + (cI 1)))) (s215.1 1020 (ix (x4 + (cI 2))))) fun s217 v218 =>
        if v216 = v218 then
          fLaw_b3122 (fLaw_h23 n) s217 x4
        else
          some (s217, (cI 0))
        else none
        else none
        else none
        else none
      else
      if ((s.1 1020 (ix x4)) &&& (cI 127)) = cI 56 then
        if inb (x4 + (cI 1)) (ix (s.1 1021 0)) = true then
        bd1 (fPH_balance s (s.1 1020 (ix (x4 + (cI 1))))) fun v219 =>
        if inb (x4 + (cI 1)) (ix (s.1 1021 0)) = true then
        bd2 (fM_balance s (s.1 1020 (ix (x4 + (cI 1))))) fun s220 v221 =>
        if (lg_cmp v219 v221) = 0 then
          fLaw_b3122 (fLaw_h23 n) s220 x4
        else
          some (s220, (cI 0))
        else none
        else none
      else
      if ((s.1 1020 (ix x4)) &&& (cI 127)) = cI 57 then
        if inb (x4 + (cI 1)) (ix (s.1 1021 0)) = true then
        if inb (x4 + (cI 2)) (ix (s.1 1021 0)) = true then
        bd1 (fPH_entry s (s.1 1020 (ix (x4 + (cI 1)))) (s.1 1020 (ix (x4 + (cI 2))))) fun v222 =>
        if inb (x4 + (cI 1)) (ix (s.1 1021 0)) = true then
        if inb (x4 + (cI 2)) (ix (s.1 1021 0)) = true then
        bd2 (fM_entry s (s.1 1020 (ix (x4 + (cI 1)))) (s.1 1020 (ix (x4 + (cI 2))))) fun s223 v224 =>
        if v222 = v224 then
          fLaw_b3122 (fLaw_h23 n) s223 x4
        else
          some (s223, (cI 0))
        else none
        else none
        else none
        else none
      else
      if ((s.1 1020 (ix x4)) &&& (cI 127)) = cI 58 then
        bd2 (fPH_tariff s) fun s225 v226 =>
        bd2 (fM_tariff s225) fun s227 v228 =>
        if v226 = v228 then
          fLaw_b3122 (fLaw_h23 n) s227 x4
        else
          some (s227, (cI 0))
      else
      if ((s.1 1020 (ix x4)) &&& (cI 127)) = cI 59 then
        if inb (x4 + (cI 1)) (ix (s.1 1021 0)) = true then
        bd1 (fPH_price s (s.1 1020 (ix (x4 + (cI 1))))) fun v229 =>
        if inb (x4 + (cI 1)) (ix (s.1 1021 0)) = true then
        bd2 (fM_price s (s.1 1020 (ix (x4 + (cI 1))))) fun s230 v231 =>
        if v229 = v231 then
          fLaw_b3122 (fLaw_h23 n) s230 x4
        else
          some (s230, (cI 0))
        else none
        else none
      else
      if ((s.1 1020 (ix x4)) &&& (cI 127)) = cI 60 then
        if inb (x4 + (cI 1)) (ix (s.1 1021 0)) = true then
        bd2 (fPH_frank s (s.1 1020 (ix (x4 + (cI 1))))) fun s232 v233 =>
        if inb (x4 + (cI 1)) (ix (s232.1 1021 0)) = true then
        bd2 (fM_frank s232 (s232.1 1020 (ix (x4 + (cI 1))))) fun s234 v235 =>
        if v233 = v235 then
          fLaw_b3122 (fLaw_h23 n) s234 x4
        else
          some (s234, (cI 0))
        else none
        else none
      else
      if ((s.1 1020 (ix x4)) &&& (cI 127)) = cI 61 then
        if inb (x4 + (cI 1)) (ix (s.1 1021 0)) = true then
        if inb (x4 + (cI 2)) (ix (s.1 1021 0)) = true then
        if inb (x4 + (cI 3)) (ix (s.1 1021 0)) = true then
        bd2 (fPH_order s (s.1 1020 (ix (x4 + (cI 1)))) (s.1 1020 (ix (x4 + (cI 2)))) (s.1 1020 (ix (x4 + (cI 3))))) fun s236 v237 =>
        if inb (x4 + (cI 1)) (ix (s236.1 1021 0)) = true then
        if inb (x4 + (cI 2)) (ix (s236.1 1021 0)) = true then
        if inb (x4 + (cI 3)) (ix (s236.1 1021 0)) = true then
        bd2 (fM_order s236 (s236.1 1020 (ix (x4 + (cI 1)))) (s236.1 1020 (ix (x4 + (cI 2)))) (s236.1 1020 (ix (x4 + (cI 3))))) fun s238 v239 =>
        if v237 = v239 then
          fLaw_b3122 (fLaw_h23 n) s238 x4
        else
          some (s238, (cI 0))
        else none
        else none
        else none
        else none
        else none
        else none
      else
      if ((s.1 1020 (ix x4)) &&& (cI 127)) = cI 62 then
        if inb (x4 + (cI 1)) (ix (s.1 1021 0)) = true then
        if inb (x4 + (cI 2)) (ix (s.1 1021 0)) = true then
        if inb (x4 + (cI 3)) (ix (s.1 1021 0)) = true then
        bd2 (fPH_payOut s (s.1 1020 (ix (x4 + (cI 1)))) (s.1 1020 (ix (x4 + (cI 2)))) (s.1 1020 (ix (x4 + (cI 3))))) fun s240 v241 =>
        if inb (x4 + (cI 1)) (ix (s240.1 1021 0)) = true then
        if inb (x4 + (cI 2)) (ix (s240.1 1021 0)) = true then
        if inb (x4 + (cI 3)) (ix (s240.1 1021 0)) = true then
        bd2 (fM_payOut s240 (s240.1 1020 (ix (x4 + (cI 1)))) (s240.1 1020 (ix (x4 + (cI 2)))) (s240.1 1020 (ix (x4 + (cI 3))))) fun s242 v243 =>
        if v241 = v243 then
          fLaw_b3122 (fLaw_h23 n) s242 x4
        else
          some (s242, (cI 0))
        else none
        else none
        else none
        else none
        else none
        else none
      else
      if ((s.1 1020 (ix x4)) &&& (cI 127)) = cI 63 then
        if inb (x4 + (cI 1)) (ix (s.1 1021 0)) = true then
        if inb (x4 + (cI 2)) (ix (s.1 1021 0)) = true then
        bd1 (fPH_orderAt s (s.1 1020 (ix (x4 + (cI 1)))) (s.1 1020 (ix (x4 + (cI 2))))) fun v244 =>
        if inb (x4 + (cI 1)) (ix (s.1 1021 0)) = true then
        if inb (x4 + (cI 2)) (ix (s.1 1021 0)) = true then
        bd2 (fM_orderAt s (s.1 1020 (ix (x4 + (cI 1)))) (s.1 1020 (ix (x4 + (cI 2))))) fun s245 v246 =>
        if v244 = v246 then
          fLaw_b3122 (fLaw_h23 n) s245 x4
        else
          some (s245, (cI 0))
        else none
        else none
        else none
        else none
      else
      if ((s.1 1020 (ix x4)) &&& (cI 127)) = cI 64 then
        if inb (x4 + (cI 1)) (ix (s.1 1021 0)) = true then
        if inb (x4 + (cI 2)) (ix (s.1 1021 0)) = true then
        bd2 (fPH_claim s (s.1 1020 (ix (x4 + (cI 1)))) (s.1 1020 (ix (x4 + (cI 2))))) fun s247 v248 =>
        if inb (x4 + (cI 1)) (ix (s247.1 1021 0)) = true then
        if inb (x4 + (cI 2)) (ix (s247.1 1021 0)) = true then
        bd2 (fM_claim s247 (s247.1 1020 (ix (x4 + (cI 1)))) (s247.1 1020 (ix (x4 + (cI 2))))) fun s249 v250 =>
        if v248 = v250 then
          fLaw_b3122 (fLaw_h23 n) s249 x4
        else
          some (s249, (cI 0))
        else none
        else none
        else none
        else none
      else
      if ((s.1 1020 (ix x4)) &&& (cI 127)) = cI 65 then
        if inb (x4 + (cI 1)) (ix (s.1 1021 0)) = true then
        if inb (x4 + (cI 2)) (ix (s.1 1021 0)) = true then
        bd2 (fPH_locker s (s.1 1020 (ix (x4 + (cI 1)))) (s.1 1020 (ix (x4 + (cI 2))))) fun s251 v252 =>
        if inb (x4 + (cI 1)) (ix (s251.1 1021 0)) = true then
        if inb (x4 + (cI 2)) (ix (s251.1 1021 0)) = true then
        bd2 (fM_locker s251 (s251.1 1020 (ix (x4 + (cI 1)))) (s251.1 1020 (ix (x4 + (cI 2))))) fun s253 v254 =>
        if v252 = v254 then
          fLaw_b3122 (fLaw_h23 n) s253 x4
        else
          some (s253, (cI 0))
        else none
        else none
        else none
        else none
      else
      if ((s.1 1020 (ix x4)) &&& (cI 127)) = cI 66 then
        if inb (x4 + (cI 1)) (ix (s.1 1021 0)) = true then
        if inb (x4 + (cI 2)) (ix (s.1 1021 0)) = true then
        bd1 (fPH_lockerAt s (s.1 1020 (ix (x4 + (cI 1)))) (s.1 1020 (ix (x4 + (cI 2))))) fun v255 =>
        if inb (x4 + (cI 1)) (ix (s.1 1021 0)) = true then
        if inb (x4 + (cI 2)) (ix (s.1 1021 0)) = true then
        bd2 (fM_lockerAt s (s.1 1020 (ix (x4 + (cI 1)))) (s.1 1020 (ix (x4 + (cI 2))))) fun s256 v257 =>
        if v255 = v257 then
          fLaw_b3122 (fLaw_h23 n) s256 x4
        else
          some (s256, (cI 0))
        else none
        else none
        else none
        else none
      else
      if ((s.1 1020 (ix x4)) &&& (cI 127)) = cI 67 then
        if inb (x4 + (cI 1)) (ix (s.1 1021 0)) = true then
        if inb (x4 + (cI 2)) (ix (s.1 1021 0)) = true then
        bd2 (fPH_device s (s.1 1020 (ix (x4 + (cI 1)))) (s.1 1020 (ix (x4 + (cI 2))))) fun s258 v259 =>
        if inb (x4 + (cI 1)) (ix (s258.1 1021 0)) = true then
        if inb (x4 + (cI 2)) (ix (s258.1 1021 0)) = true then
        bd2 (fM_device s258 (s258.1 1020 (ix (x4 + (cI 1)))) (s258.1 1020 (ix (x4 + (cI 2))))) fun s260 v261 =>
        if v259 = v261 then
          fLaw_b3122 (fLaw_h23 n) s260 x4
        else
          some (s260, (cI 0))
        else none
        else none
        else none
        else none
      else
      if ((s.1 1020 (ix x4)) &&& (cI 127)) = cI 68 then
        if inb (x4 + (cI 1)) (ix (s.1 1021 0)) = true then
        if inb (x4 + (cI 2)) (ix (s.1 1021 0)) = true then
        if inb (x4 + (cI 3)) (ix (s.1 1021 0)) = true then
        if inb (x4 + (cI 4)) (ix (s.1 1021 0)) = true then
        bd2 (fPH_scanned s (s.1 1020 (ix (x4 + (cI 1)))) (s.1 1020 (ix (x4 + (cI 2)))) (s.1 1020 (ix (x4 + (cI 3)))) (s.1 1020 (ix (x4 + (cI 4))))) fun s262 v263 =>
        if inb (x4 + (cI 1)) (ix (s262.1 1021 0)) = true then
        if inb (x4 + (cI 2)) (ix (s262.1 1021 0)) = true then
        if inb (x4 + (cI 3)) (ix (s262.1 1021 0)) = true then
        if inb (x4 + (cI 4)) (ix (s262.1 1021 0)) = true then
        bd2 (fM_scanned s262 (s262.1 1020 (ix (x4 + (cI 1)))) (s262.1 1020 (ix (x4 + (cI 2)))) (s262.1 1020 (ix (x4 + (cI 3)))) (s262.1 1020 (ix (x4 + (cI 4))))) fun s264 v265 =>
        if v263 = v265 then
          fLaw_b3122 (fLaw_h23 n) s264 x4
        else
          some (s264, (cI 0))
        else none
        else none
        else none
        else none
        else none
        else none
        else none
        else none
      else
      if ((s.1 1020 (ix x4)) &&& (cI 127)) = cI 69 then
        if inb (x4 + (cI 1)) (ix (s.1 1021 0)) = true then
        if inb (x4 + (cI 2)) (ix (s.1 1021 0)) = true then
        if inb (x4 + (cI 3)) (ix (s.1 1021 0)) = true then
        bd1 (fPH_trace s (s.1 1020 (ix (x4 + (cI 1)))) (s.1 1020 (ix (x4 + (cI 2)))) (s.1 1020 (ix (x4 + (cI 3))))) fun v266 =>
        if inb (x4 + (cI 1)) (ix (s.1 1021 0)) = true then
        if inb (x4 + (cI 2)) (ix (s.1 1021 0)) = true then
        if inb (x4 + (cI 3)) (ix (s.1 1021 0)) = true then
        bd2 (fM_trace s (s.1 1020 (ix (x4 + (cI 1)))) (s.1 1020 (ix (x4 + (cI 2)))) (s.1 1020 (ix (x4 + (cI 3))))) fun s267 v268 =>
        if v266 = v268 then
          fLaw_b3122 (fLaw_h23 n) s267 x4
        else
          some (s267, (cI 0))
        else none
        else none
        else none
        else none
        else none
        else none
      else
      if ((s.1 1020 (ix x4)) &&& (cI 127)) = cI 70 then
        if inb (x4 + (cI 1)) (ix (s.1 1021 0)) = true then
        if inb (x4 + (cI 2)) (ix (s.1 1021 0)) = true then
        if inb (x4 + (cI 3)) (ix (s.1 1021 0)) = true then
        if (s.1 1020 (ix (x4 + (cI 3)))) = 0 then
          fLaw_b2996 (fLaw_h23 n) s x4 (s.1 1020 (ix (x4 + (cI 1)))) (s.1 1020 (ix (x4 + (cI 2)))) (cI 0)
        else
          fLaw_b2996 (fLaw_h23 n) s x4 (s.1 1020 (ix (x4 + (cI 1)))) (s.1 1020 (ix (x4 + (cI 2)))) (cI 1)
        else none
        else none
        else none
      else
      if ((s.1 1020 (ix x4)) &&& (cI 127)) = cI 71 then
        if inb (x4 + (cI 1)) (ix (s.1 1021 0)) = true then
        if inb (x4 + (cI 2)) (ix (s.1 1021 0)) = true then
        bd1 (fPH_notice s (s.1 1020 (ix (x4 + (cI 1)))) (s.1 1020 (ix (x4 + (cI 2))))) fun v269 =>
        if inb (x4 + (cI 1)) (ix (s.1 1021 0)) = true then
        if inb (x4 + (cI 2)) (ix (s.1 1021 0)) = true then
        bd2 (fM_notice s (s.1 1020 (ix (x4 + (cI 1)))) (s.1 1020 (ix (x4 + (cI 2))))) fun s270 v271 =>
        if v269 = v271 then
          fLaw_b3122 (fLaw_h23 n) s270 x4
        else
          some (s270, (cI 0))
        else none
        else none
        else none
        else none
      else
      if ((s.1 1020 (ix x4)) &&& (cI 127)) = cI 72 then
        if inb (x4 + (cI 1)) (ix (s.1 1021 0)) = true then
        bd2 (fPH_tick s (s.1 1020 (ix (x4 + (cI 1))))) fun s272 v273 =>
        if inb (x4 + (cI 1)) (ix (s272.1 1021 0)) = true then
        bd2 (fM_tick s272 (s272.1 1020 (ix (x4 + (cI 1))))) fun s274 v275 =>
        if v273 = v275 then
          fLaw_b3122 (fLaw_h23 n) s274 x4
        else
          some (s274, (cI 0))
        else none
        else none
      else
      if ((s.1 1020 (ix x4)) &&& (cI 127)) = cI 73 then
        bd1 (fPH_now s) fun v276 =>
        bd2 (fM_now s) fun s277 v278 =>
        if v276 = v278 then
          fLaw_b3122 (fLaw_h23 n) s277 x4
        else
          some (s277, (cI 0))
      else
      if ((s.1 1020 (ix x4)) &&& (cI 127)) = cI 74 then
        bd2 (fPH_audit s) fun s279 v280 =>
        bd2 (fM_audit s279) fun s281 v282 =>
        if v280 = v282 then
          fLaw_b3122 (fLaw_h23 n) s281 x4
        else
          some (s281, (cI 0))
      else
      fLaw_b3122 (fLaw_h23 n) s x4
      else none
    else
      some (s, (cI 1))
