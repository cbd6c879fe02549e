/-! ===== a row of a table is checked: the program, and that it is right ===== -/
def chk_room (M c : Nat) : Bool := Nat.ble (frmT c + 1) (frmT M) && Nat.ble (8 + ((datT c).1 + 11) + lcoT c) (lcoT M)
def chk_tab (pc : Nat) (d lo hi : Int) (os : List Int) : Bool := decide (-2147483648 ≤ lo) && decide (hi < 2147483648) && decide (hi = lo + os.length - 1) && decide (0 ≤ (pc : Int) + d) && os.all fun o => decide (0 ≤ (pc : Int) + o)
def chk_lkp (pc : Nat) (d : Int) (ps : List (Int × Int)) : Bool := (ps.all fun q => decide (-2147483648 ≤ q.1) && decide (q.1 < 2147483648) && decide (0 ≤ (pc : Int) + q.2)) && (ps.zip (ps.drop 1)).all (fun (a, next) => a.1 < next.1) && decide (0 ≤ (pc : Int) + d)
/-- a field that is written: its type's kind, and whether it is final -/
def chk_fin (M r : Nat) : Bool := (!(cfd r).2.2.2) || (Nat.beq (flgT M) 3 && Nat.beq (oclT M) (r / 1024))
def chkI (M pc : Nat) (n : Nat) (r : Int) (ins : Instr) : Bool := match ins with
  | .aload _ => Nat.beq n 2
  | .iload _ => Nat.beq n 2
  | .lload _ => Nat.beq n 2
  | .astore j => Nat.beq n 2 && Nat.ble (j + 1) (datT M).1
  | .astore_n j => Nat.beq n 1 && Nat.ble (j.val + 1) (datT M).1
  | .istore j => Nat.beq n 2 && Nat.ble (j + 1) (datT M).1
  | .istore_n j => Nat.beq n 1 && Nat.ble (j.val + 1) (datT M).1
  | .lstore j => Nat.beq n 2 && Nat.ble (j + 2) (datT M).1
  | .lstore_n j => Nat.beq n 1 && Nat.ble (j.val + 2) (datT M).1
  | .iinc j _ => Nat.beq n 3 && Nat.ble (j + 1) (datT M).1
  | .iconst v => Nat.beq n 1 && decide (v = r)
  | .bipush v => Nat.beq n 2 && decide ((Int8.ofInt v).toInt32 = cI r)
  | .sipush v => Nat.beq n 3 && decide ((Int16.ofInt v).toInt32 = cI r)
  | .ldc idx => Nat.beq n 2 && (ev_str r || hasI (by_cst (oclT M)) idx r)
  | .ldc_w idx => Nat.beq n 3 && (!(ev_str r) && hasI (by_cst (oclT M)) idx r)
  | .lconst d => Nat.beq n 1 && decide (Int64.ofNat d.val = cL r)
  | .ldc2_w idx => Nat.beq n 3 && hasI (by_csl (oclT M)) idx r
  | .getfield idx => Nat.beq n 3 && hasP (by_fl (oclT M)) idx r.toNat
  | .putfield idx => Nat.beq n 3 && hasP (by_fl (oclT M)) idx r.toNat && chk_fin M r.toNat
  | .getstatic idx => Nat.beq n 3 && hasP (by_sl (oclT M)) idx r.toNat
  | .goto off => Nat.beq n 3 && decide ((pc : Int) + off = (r.toNat : Int))
  | .ifCond _ off => Nat.beq n 3 && decide ((pc : Int) + off = (r.toNat : Int))
  | .if_icmp _ off => Nat.beq n 3 && decide ((pc : Int) + off = (r.toNat : Int))
  | .tableswitch d lo hi os => chk_tab pc d lo hi os.toList
  | .lookupswitch d ps => chk_lkp pc d ps.toList
  | .invokestatic idx => Nat.beq n 3 && (Nat.ble 900 r.toNat || (Nat.beq (flgT r.toNat) 1 && (hasP (by_lk (oclT M)) idx r.toNat || hasP (by_nst (oclT M)) idx r.toNat) && chk_room M r.toNat))
  | .invokevirtual idx => Nat.beq n 3 && (Nat.ble 900 r.toNat || (Nat.beq (flgT r.toNat) 2 && hasP (by_lk (oclT M)) idx r.toNat && chk_room M r.toNat))
  | .invokespecial idx => Nat.beq n 3 && (Nat.ble 900 r.toNat || (Nat.beq (flgT r.toNat) 3 && hasP (by_lk (oclT M)) idx r.toNat && chk_room M r.toNat))
  | .ireturn => Nat.beq n 1 && (if (datT M).2.2.1 = true then decide (rtyT M = some .boolean) else decide (rtyT M = some .int))
  | .lreturn => Nat.beq n 1 && decide (rtyT M = some .long)
  | .return_ => Nat.beq n 1 && decide (rtyT M = none)
  | .new idx => Nat.beq n 3 && hasP (by_clk (oclT M)) idx r.toNat && Nat.ble (r.toNat + 1) 13
  | .newarray a => Nat.beq n 2 && (match a with
    | .int => Nat.beq r.toNat 1
    | .byte => Nat.beq r.toNat 2
    | .boolean => Nat.beq r.toNat 3
    | .long => Nat.beq r.toNat 4
    | _ => false)
  | .multianewarray idx d => Nat.beq n 4 && Nat.beq d 2 && (by_clm (oclT M)).contains idx
  | _ => Nat.beq n 1
noncomputable def chkE (M : Nat) (e : ev_E) : Bool := decide (decode (bysT M) e.1 = .ok (e.2.1, e.2.2.1)) && chkI M e.1 e.2.2.1 e.2.2.2.1 e.2.1
def eOk (M : Nat) (t : List (List ev_E)) : Prop := (t.all fun row => row.all (chkE M)) = true
