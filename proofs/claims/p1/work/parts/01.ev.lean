/-! ===== THE INTERPRETER: a small memory (cells by number; Int32 and Int64 contents), the decoded instructions with their operands resolved ===== -/
abbrev ev_V : Type := Int32 ⊕ (Int64 ⊕ (Nat × Nat))
abbrev vI (x : Int32) : ev_V := .inl x
abbrev vL (x : Int64) : ev_V := .inr (.inl x)
abbrev vR (g i : Nat) : ev_V := .inr (.inr (g, i))
/-- ints, longs, how many cells are made, which reference fields are set (constructors alone look at these two), cells and slots that were made since the beginning -/
abbrev ev_M : Type := (Nat → Nat → Int32) × ((Nat → Nat → Int64) × (Nat × ((Nat → Nat → Bool) × (Nat × Nat))))
abbrev ev_O : Type := ev_M × List ev_V
abbrev ev_L : Type := List (Option ev_V)
/-- pc, instruction, length, resolved operand, dead locals -/
abbrev ev_E : Type := Nat × (Instr × (Nat × (Int × List Nat)))
def u2 {α : Type} (f : Nat → Nat → α) (c k : Nat) (x : α) : Nat → Nat → α := fun a b => if a = c then (if b = k then x else f a b) else f a b
def wI (s : ev_M) (c k : Nat) (x : Int32) : ev_M := (u2 s.1 c k x, s.2)
def wL (s : ev_M) (c k : Nat) (x : Int64) : ev_M := (s.1, (u2 s.2.1 c k x, s.2.2))
def cI (n : Int) : Int32 := Int32.ofInt n
def cL (n : Int) : Int64 := Int64.ofInt n
def inb (j : Int32) (n : Nat) : Bool := !(decide (j < 0)) && decide (j.toNatClampNeg < n)
def ix (j : Int32) : Nat := j.toNatClampNeg
def bz (x : Int32) : Bool := decide (x = 0) || decide (x = 1)
def ev_nth {α : Type} : List α → Nat → Option α
  | [], _ => none
  | a :: _, 0 => some a
  | _ :: l, n + 1 => ev_nth l n
def ev_set {α : Type} : List (Option α) → Nat → Option α → List (Option α)
  | [], _, _ => []
  | _ :: l, 0, v => v :: l
  | a :: l, n + 1, v => a :: ev_set l n v
def ev_fnd : List ev_E → Nat → Option (Instr × (Nat × (Int × List Nat)))
  | [], _ => none
  | q :: r, n => bif Nat.beq q.1 n then some q.2 else ev_fnd r n
def ev_fnd2 (t : List (List ev_E)) (n : Nat) : Option (Instr × (Nat × (Int × List Nat))) := match ev_nth t (n / 16) with
  | some r => ev_fnd r n
  | none => none
def ev_clr : ev_L → List Nat → ev_L
  | L, [] => L
  | L, i :: r => ev_clr (ev_set L i none) r
/-- the long below a place that is written is one no more -/
def ev_kill (L : ev_L) : Nat → ev_L
  | 0 => L
  | i + 1 => match ev_nth L i with
    | some (some (.inr (.inl _))) => ev_set L i none
    | _ => L
def ev_st1 (L : ev_L) (i : Nat) (v : ev_V) : ev_L := ev_set (ev_kill L i) i (some v)
def ev_st2 (L : ev_L) (i : Nat) (v : ev_V) : ev_L := ev_set (ev_set (ev_kill L i) i (some v)) (i + 1) none
def ev_ent : List ev_V → Nat → ev_L
  | [], n => List.replicate n none
  | .inr (.inl x) :: r, n => some (vL x) :: none :: ev_ent r (n - 2)
  | v :: r, n => some v :: ev_ent r (n - 1)
abbrev ev_K : Type := Nat → ev_L → List ev_V → ev_M → Option ev_O
def ev_cat (v : ev_V) : Nat := match v with
  | .inr (.inl _) => 2
  | _ => 1
def ev_cats : List ev_V → Nat
  | [] => 0
  | v :: r => ev_cat v + ev_cats r
section EV
variable (shp : Nat → Nat × (Nat × (Nat × Nat))) (rfT : Nat → Nat → Nat)
def s_get (r : Nat) (pc n : Nat) (k : ev_K) (L : ev_L) (st : List ev_V) (s : ev_M) : Option ev_O := match st with
  | .inr (.inr (g, _)) :: st => match shp g with
    | (0, (ci, _)) => bif Nat.beq ci (r / 1024) then (match r % 4 with
      | 0 => k (pc + n) L (vI (s.1 g (r % 1024 / 4)) :: st) s
      | 1 => k (pc + n) L (vL (s.2.1 g (r % 1024 / 4)) :: st) s
      | 2 => k (pc + n) L (vI (s.1 g (r % 1024 / 4)) :: st) s
      | _ => k (pc + n) L (vR (rfT g (r % 1024 / 4)) 0 :: st) s) else none
    | _ => none
  | _ => none
def s_put (r : Nat) (pc n : Nat) (k : ev_K) (L : ev_L) (st : List ev_V) (s : ev_M) : Option ev_O := match st with
  | v :: .inr (.inr (g, _)) :: st => match shp g with
    | (0, (ci, _)) => bif Nat.beq ci (r / 1024) then (match r % 4, v with
      | 0, .inl x => k (pc + n) L st (wI s g (r % 1024 / 4) x)
      | 1, .inr (.inl x) => k (pc + n) L st (wL s g (r % 1024 / 4) x)
      | 2, .inl x => if bz x = true then k (pc + n) L st (wI s g (r % 1024 / 4) x) else none
      | _, _ => none) else none
    | _ => none
  | _ => none
def s_iald (pc : Nat) (k : ev_K) (L : ev_L) (st : List ev_V) (s : ev_M) : Option ev_O := match st with
  | .inl j :: .inr (.inr (g, i)) :: st => match shp g with
    | (1, (n, _)) => if inb j n = true then k (pc + 1) L (vI (s.1 (g + i) (ix j)) :: st) s else none
    | (6, _) => if inb j (ix (s.1 1021 0)) = true then k (pc + 1) L (vI (s.1 g (ix j)) :: st) s else none
    | _ => none
  | _ => none
def s_bald (pc : Nat) (k : ev_K) (L : ev_L) (st : List ev_V) (s : ev_M) : Option ev_O := match st with
  | .inl j :: .inr (.inr (g, i)) :: st => match shp g with
    | (2, (n, _)) => if inb j n = true then k (pc + 1) L (vI (s.1 (g + i) (ix j)) :: st) s else none
    | (3, (n, _)) => if inb j n = true then k (pc + 1) L (vI (s.1 (g + i) (ix j)) :: st) s else none
    | _ => none
  | _ => none
def s_lald (pc : Nat) (k : ev_K) (L : ev_L) (st : List ev_V) (s : ev_M) : Option ev_O := match st with
  | .inl j :: .inr (.inr (g, i)) :: st => match shp g with
    | (4, (n, _)) => if inb j n = true then k (pc + 1) L (vL (s.2.1 (g + i) (ix j)) :: st) s else none
    | _ => none
  | _ => none
def s_aald (pc : Nat) (k : ev_K) (L : ev_L) (st : List ev_V) (s : ev_M) : Option ev_O := match st with
  | .inl j :: .inr (.inr (g, _)) :: st => match shp g with
    | (5, (n, (f, _))) => if inb j n = true then k (pc + 1) L (vR f (ix j) :: st) s else none
    | _ => none
  | _ => none
def s_iast (pc : Nat) (k : ev_K) (L : ev_L) (st : List ev_V) (s : ev_M) : Option ev_O := match st with
  | .inl x :: .inl j :: .inr (.inr (g, i)) :: st => match shp g with
    | (1, (n, (_, 0))) => if inb j n = true then k (pc + 1) L st (wI s (g + i) (ix j) x) else none
    | _ => none
  | _ => none
def s_bast (pc : Nat) (k : ev_K) (L : ev_L) (st : List ev_V) (s : ev_M) : Option ev_O := match st with
  | .inl x :: .inl j :: .inr (.inr (g, i)) :: st => match shp g with
    | (2, (n, (_, 0))) => if inb j n = true then k (pc + 1) L st (wI s (g + i) (ix j) (x.toInt8.toInt32)) else none
    | (3, (n, (_, 0))) => if inb j n = true then k (pc + 1) L st (wI s (g + i) (ix j) (x &&& 1)) else none
    | _ => none
  | _ => none
def s_last (pc : Nat) (k : ev_K) (L : ev_L) (st : List ev_V) (s : ev_M) : Option ev_O := match st with
  | .inr (.inl x) :: .inl j :: .inr (.inr (g, i)) :: st => match shp g with
    | (4, (n, (_, 0))) => if inb j n = true then k (pc + 1) L st (wL s (g + i) (ix j) x) else none
    | _ => none
  | _ => none
def s_alen (pc : Nat) (k : ev_K) (L : ev_L) (st : List ev_V) (s : ev_M) : Option ev_O := match st with
  | .inr (.inr (g, i)) :: st => match shp g with
    | (6, _) => k (pc + 1) L (vI (s.1 1021 0) :: st) s
    | (1, (n, _)) => k (pc + 1) L (vI (cI n) :: st) s
    | (2, (n, _)) => k (pc + 1) L (vI (cI n) :: st) s
    | (4, (n, _)) => k (pc + 1) L (vI (cI n) :: st) s
    | _ => none
  | _ => none
def s_ild (i pc n : Nat) (k : ev_K) (L : ev_L) (st : List ev_V) (s : ev_M) : Option ev_O := match ev_nth L i with
  | some (some (.inl x)) => k (pc + n) L (vI x :: st) s
  | _ => none
def s_lld (i pc n : Nat) (k : ev_K) (L : ev_L) (st : List ev_V) (s : ev_M) : Option ev_O := match ev_nth L i with
  | some (some (.inr (.inl x))) => k (pc + n) L (vL x :: st) s
  | _ => none
def s_rld (i pc n : Nat) (k : ev_K) (L : ev_L) (st : List ev_V) (s : ev_M) : Option ev_O := match ev_nth L i with
  | some (some (.inr (.inr x))) => k (pc + n) L (.inr (.inr x) :: st) s
  | _ => none
def s_ist (i pc n : Nat) (k : ev_K) (L : ev_L) (st : List ev_V) (s : ev_M) : Option ev_O := match st with
  | .inl x :: st => k (pc + n) (ev_st1 L i (vI x)) st s
  | _ => none
def s_lst (i pc n : Nat) (k : ev_K) (L : ev_L) (st : List ev_V) (s : ev_M) : Option ev_O := match st with
  | .inr (.inl x) :: st => k (pc + n) (ev_st2 L i (vL x)) st s
  | _ => none
def s_rst (i pc n : Nat) (k : ev_K) (L : ev_L) (st : List ev_V) (s : ev_M) : Option ev_O := match st with
  | .inr (.inr x) :: st => k (pc + n) (ev_st1 L i (.inr (.inr x))) st s
  | _ => none
def s_inc (i : Nat) (c : Int) (pc n : Nat) (k : ev_K) (L : ev_L) (st : List ev_V) (s : ev_M) : Option ev_O := match ev_nth L i with
  | some (some (.inl x)) => k (pc + n) (ev_st1 L i (vI (x + cI c))) st s
  | _ => none
def s_bin (f : Int32 → Int32 → Int32) (pc : Nat) (k : ev_K) (L : ev_L) (st : List ev_V) (s : ev_M) : Option ev_O := match st with
  | .inl y :: .inl x :: st => k (pc + 1) L (vI (f x y) :: st) s
  | _ => none
def s_div (f : Int32 → Int32 → Int32) (pc : Nat) (k : ev_K) (L : ev_L) (st : List ev_V) (s : ev_M) : Option ev_O := match st with
  | .inl y :: .inl x :: st => if y = 0 then none else k (pc + 1) L (vI (f x y) :: st) s
  | _ => none
def s_un (f : Int32 → Int32) (pc : Nat) (k : ev_K) (L : ev_L) (st : List ev_V) (s : ev_M) : Option ev_O := match st with
  | .inl x :: st => k (pc + 1) L (vI (f x) :: st) s
  | _ => none
def s_lbin (f : Int64 → Int64 → Int64) (pc : Nat) (k : ev_K) (L : ev_L) (st : List ev_V) (s : ev_M) : Option ev_O := match st with
  | .inr (.inl y) :: .inr (.inl x) :: st => k (pc + 1) L (vL (f x y) :: st) s
  | _ => none
def s_ldiv (f : Int64 → Int64 → Int64) (pc : Nat) (k : ev_K) (L : ev_L) (st : List ev_V) (s : ev_M) : Option ev_O := match st with
  | .inr (.inl y) :: .inr (.inl x) :: st => if y = 0 then none else k (pc + 1) L (vL (f x y) :: st) s
  | _ => none
def s_lcmp (pc : Nat) (k : ev_K) (L : ev_L) (st : List ev_V) (s : ev_M) : Option ev_O := match st with
  | .inr (.inl y) :: .inr (.inl x) :: st => k (pc + 1) L (vI (lg_cmp x y) :: st) s
  | _ => none
def s_i2l (pc : Nat) (k : ev_K) (L : ev_L) (st : List ev_V) (s : ev_M) : Option ev_O := match st with
  | .inl x :: st => k (pc + 1) L (vL x.toInt64 :: st) s
  | _ => none
def s_l2i (pc : Nat) (k : ev_K) (L : ev_L) (st : List ev_V) (s : ev_M) : Option ev_O := match st with
  | .inr (.inl x) :: st => k (pc + 1) L (vI x.toInt32 :: st) s
  | _ => none
def s_cmp (c : ClassFile.Cond) (x y : Int32) (t e : Option ev_O) : Option ev_O := match c with
  | .eq => if x = y then t else e
  | .ne => if x = y then e else t
  | .lt => if x < y then t else e
  | .ge => if x < y then e else t
  | .le => if x ≤ y then t else e
  | .gt => if x ≤ y then e else t
def s_if (c : ClassFile.Cond) (r pc n : Nat) (k : ev_K) (L : ev_L) (st : List ev_V) (s : ev_M) : Option ev_O := match st with
  | .inl x :: st => s_cmp c x 0 (k r L st s) (k (pc + n) L st s)
  | _ => none
def s_icmp (c : ClassFile.Cond) (r pc n : Nat) (k : ev_K) (L : ev_L) (st : List ev_V) (s : ev_M) : Option ev_O := match st with
  | .inl y :: .inl x :: st => s_cmp c x y (k r L st s) (k (pc + n) L st s)
  | _ => none
def s_dup (pc : Nat) (k : ev_K) (L : ev_L) (st : List ev_V) (s : ev_M) : Option ev_O := match st with
  | .inr (.inl _) :: _ => none
  | v :: st => k (pc + 1) L (v :: v :: st) s
  | _ => none
def s_pop (pc : Nat) (k : ev_K) (L : ev_L) (st : List ev_V) (s : ev_M) : Option ev_O := match st with
  | .inr (.inl _) :: _ => none
  | _ :: st => k (pc + 1) L st s
  | _ => none
def s_dupx1 (pc : Nat) (k : ev_K) (L : ev_L) (st : List ev_V) (s : ev_M) : Option ev_O := match st with
  | a :: b :: st => bif Nat.beq (ev_cats [a, b]) 2 then k (pc + 1) L (a :: b :: a :: st) s else none
  | _ => none
def s_dupx2 (pc : Nat) (k : ev_K) (L : ev_L) (st : List ev_V) (s : ev_M) : Option ev_O := match st with
  | a :: b :: c :: st => bif Nat.beq (ev_cats [a, b, c]) 3 then k (pc + 1) L (a :: b :: c :: a :: st) s else none
  | _ => none
def s_dup2 (pc : Nat) (k : ev_K) (L : ev_L) (st : List ev_V) (s : ev_M) : Option ev_O := match st with
  | .inr (.inl x) :: st => k (pc + 1) L (vL x :: vL x :: st) s
  | a :: b :: st => bif Nat.beq (ev_cats [a, b]) 2 then k (pc + 1) L (a :: b :: a :: b :: st) s else none
  | _ => none
def s_tab (pc : Nat) (k : ev_K) (L : ev_L) (st : List ev_V) (s : ev_M) (x : Int32) (d : Int) : List Int → Int → Option ev_O
  | [], _ => k ((pc : Int) + d).toNat L st s
  | o :: r, v => if x = cI v then k ((pc : Int) + o).toNat L st s else s_tab pc k L st s x d r (v + 1)
def s_lkp (pc : Nat) (k : ev_K) (L : ev_L) (st : List ev_V) (s : ev_M) (x : Int32) (d : Int) : List (Int × Int) → Option ev_O
  | [] => k ((pc : Int) + d).toNat L st s
  | (v, o) :: r => if x = cI v then k ((pc : Int) + o).toNat L st s else s_lkp pc k L st s x d r
def s_push (v : ev_V) (pc n : Nat) (k : ev_K) (L : ev_L) (st : List ev_V) (s : ev_M) : Option ev_O := k (pc + n) L (v :: st) s
def s_ret (b : Bool) (st : List ev_V) (s : ev_M) : Option ev_O := match st with
  | [.inl x] => bif b then (if bz x = true then some (s, [vI x]) else none) else some (s, [vI x])
  | _ => none
def s_lret (st : List ev_V) (s : ev_M) : Option ev_O := match st with
  | [.inr (.inl x)] => some (s, [vL x])
  | _ => none
/-- the arguments of a call, the first pushed first; what is below -/
def ev_take : Nat → List ev_V → List ev_V → Option (List ev_V × List ev_V)
  | 0, as, st => some (as, st)
  | n + 1, as, v :: st => ev_take n (v :: as) st
  | _ + 1, _, [] => none
def ev_after (o : Option ev_O) (k : ev_O → Option ev_O) : Option ev_O := match o with
  | some q => k q
  | none => none
def s_call (na : Nat) (c : List ev_V → ev_M → Option ev_O) (pc : Nat) (k : ev_K) (L : ev_L) (st : List ev_V) (s : ev_M) : Option ev_O := match ev_take na [] st with
  | some (as, st) => bif Nat.ble (ev_cats st) 8 then ev_after (c as s) (fun q => k (pc + 3) L (q.2 ++ st) q.1) else none
  | none => none
/-- in a constructor: a cell comes; a reference field is written, and read once it is set -/
def z_row {α : Type} (z : α) (lo hi : Nat) (f : Nat → Nat → α) : Nat → Nat → α := fun a b => if lo ≤ a ∧ a < hi then z else f a b
def s_make (n w : Nat) (s : ev_M) : ev_M := (z_row 0 s.2.2.1 (s.2.2.1 + n) s.1, (z_row 0 s.2.2.1 (s.2.2.1 + n) s.2.1, (s.2.2.1 + n, (z_row false s.2.2.1 (s.2.2.1 + n) s.2.2.2.1, (s.2.2.2.2.1 + n, s.2.2.2.2.2 + w)))))
def s_new (r pc : Nat) (k : ev_K) (L : ev_L) (st : List ev_V) (s : ev_M) : Option ev_O := match shp s.2.2.1 with
  | (0, (ci, (w, _))) => bif Nat.beq ci r then k (pc + 3) L (vR s.2.2.1 0 :: st) (s_make 1 w s) else none
  | _ => none
def s_newa (r pc : Nat) (k : ev_K) (L : ev_L) (st : List ev_V) (s : ev_M) : Option ev_O := match st, shp s.2.2.1 with
  | .inl x :: st, (t, (n, (1, 0))) => bif Nat.beq t r && Nat.ble 1 t && Nat.ble t 4 then (if x = cI n then k (pc + 2) L (vR s.2.2.1 0 :: st) (s_make 1 n s) else none) else none
  | _, _ => none
def s_newm (pc : Nat) (k : ev_K) (L : ev_L) (st : List ev_V) (s : ev_M) : Option ev_O := match st, shp s.2.2.1 with
  | .inl y :: .inl x :: st, (5, (n, (f, _))) => (match shp f with
    | (1, (m, (c, 0))) => bif Nat.beq f (s.2.2.1 + 1) && Nat.beq c n then (if x = cI n ∧ y = cI m then k (pc + 4) L (vR s.2.2.1 0 :: st) (s_make (1 + n) (n + n * m) s) else none) else none
    | _ => none)
  | _, _ => none
def s_putr (r : Nat) (pc n : Nat) (k : ev_K) (L : ev_L) (st : List ev_V) (s : ev_M) : Option ev_O := match st with
  | .inr (.inr (h, j)) :: .inr (.inr (g, _)) :: st => match shp g with
    | (0, (ci, _)) => bif Nat.beq ci (r / 1024) && Nat.beq (rfT g (r % 1024 / 4)) h && Nat.beq j 0 then k (pc + n) L st (s.1, (s.2.1, (s.2.2.1, (u2 s.2.2.2.1 g (r % 1024 / 4) true, s.2.2.2.2)))) else none
    | _ => none
  | _ => none
def s_getr (r : Nat) (pc n : Nat) (k : ev_K) (L : ev_L) (st : List ev_V) (s : ev_M) : Option ev_O := match st with
  | .inr (.inr (g, j)) :: st' => bif s.2.2.2.1 g (r % 1024 / 4) then s_get shp rfT r pc n k L (.inr (.inr (g, j)) :: st') s else none
  | _ => none
/-- a text's number (an int that ldc pushes lies outside -32768 .. 32767) -/
def ev_str (r : Int) : Bool := Nat.ble 1 r.toNat && Nat.ble r.toNat 2000
def s_ldc (r : Int) (pc n : Nat) (k : ev_K) (L : ev_L) (st : List ev_V) (s : ev_M) : Option ev_O := bif ev_str r then k (pc + n) L (vR r.toNat 0 :: st) s else k (pc + n) L (vI (cI r) :: st) s
/-- one instruction: md: a constructor; na: how many arguments each method has; bret: whether this one answers a boolean -/
def ev_sem (md : Bool) (na : Nat → Nat) (bret : Bool) (i : Instr) (n : Nat) (r : Int) (pc : Nat) (c : Nat → List ev_V → ev_M → Option ev_O) (k : ev_K) (L : ev_L) (st : List ev_V) (s : ev_M) : Option ev_O := match i with
  | .aload j => s_rld j pc n k L st s
  | .aload_n j => s_rld j.val pc n k L st s
  | .iload j => s_ild j pc n k L st s
  | .iload_n j => s_ild j.val pc n k L st s
  | .lload j => s_lld j pc n k L st s
  | .lload_n j => s_lld j.val pc n k L st s
  | .astore j => s_rst j pc n k L st s
  | .astore_n j => s_rst j.val pc n k L st s
  | .istore j => s_ist j pc n k L st s
  | .istore_n j => s_ist j.val pc n k L st s
  | .lstore j => s_lst j pc n k L st s
  | .lstore_n j => s_lst j.val pc n k L st s
  | .iinc j x => s_inc j x pc n k L st s
  | .iconst _ => s_push (vI (cI r)) pc n k L st s
  | .bipush _ => s_push (vI (cI r)) pc n k L st s
  | .sipush _ => s_push (vI (cI r)) pc n k L st s
  | .ldc _ => s_ldc r pc n k L st s
  | .ldc_w _ => s_ldc r pc n k L st s
  | .lconst _ => s_push (vL (cL r)) pc n k L st s
  | .ldc2_w _ => s_push (vL (cL r)) pc n k L st s
  | .getfield _ => bif md && Nat.beq (r.toNat % 4) 3 then s_getr shp rfT r.toNat pc n k L st s else s_get shp rfT r.toNat pc n k L st s
  | .putfield _ => bif Nat.beq (r.toNat % 4) 3 then (bif md then s_putr shp rfT r.toNat pc n k L st s else none) else s_put shp r.toNat pc n k L st s
  | .getstatic _ => s_push (vR r.toNat 0) pc n k L st s
  | .iaload => s_iald shp pc k L st s
  | .baload => s_bald shp pc k L st s
  | .laload => s_lald shp pc k L st s
  | .aaload => s_aald shp pc k L st s
  | .iastore => s_iast shp pc k L st s
  | .bastore => s_bast shp pc k L st s
  | .lastore => s_last shp pc k L st s
  | .arraylength => s_alen shp pc k L st s
  | .iadd => s_bin (· + ·) pc k L st s
  | .isub => s_bin (· - ·) pc k L st s
  | .imul => s_bin (· * ·) pc k L st s
  | .idiv => s_div (· / ·) pc k L st s
  | .irem => s_div (fun x y => x - x / y * y) pc k L st s
  | .iand => s_bin (· &&& ·) pc k L st s
  | .ior => s_bin (· ||| ·) pc k L st s
  | .ixor => s_bin (· ^^^ ·) pc k L st s
  | .ishl => s_bin (fun x y => x <<< (y &&& 31)) pc k L st s
  | .ishr => s_bin (fun x y => x >>> (y &&& 31)) pc k L st s
  | .iushr => s_bin (fun x y => (x.toUInt32 >>> (y.toUInt32 &&& Int32.toUInt32 31)).toInt32) pc k L st s
  | .ineg => s_un (fun x => -x) pc k L st s
  | .i2b => s_un (fun x => x.toInt8.toInt32) pc k L st s
  | .i2c => s_un (fun x => (x.toUInt32 % 65536).toInt32) pc k L st s
  | .i2l => s_i2l pc k L st s
  | .l2i => s_l2i pc k L st s
  | .ladd => s_lbin (· + ·) pc k L st s
  | .lsub => s_lbin (· - ·) pc k L st s
  | .lmul => s_lbin (· * ·) pc k L st s
  | .ldiv => s_ldiv (· / ·) pc k L st s
  | .lrem => s_ldiv (fun x y => x - x / y * y) pc k L st s
  | .lcmp => s_lcmp pc k L st s
  | .dup => s_dup pc k L st s
  | .dup_x1 => s_dupx1 pc k L st s
  | .dup_x2 => s_dupx2 pc k L st s
  | .dup2 => s_dup2 pc k L st s
  | .pop => s_pop pc k L st s
  | .goto _ => k r.toNat L st s
  | .ifCond x _ => s_if x r.toNat pc n k L st s
  | .if_icmp x _ => s_icmp x r.toNat pc n k L st s
  | .tableswitch d lo _ os => (match st with
    | .inl x :: st => s_tab pc k L st s x d os.toList lo
    | _ => none)
  | .lookupswitch d ps => (match st with
    | .inl x :: st => s_lkp pc k L st s x d ps.toList
    | _ => none)
  | .invokestatic _ => s_call (na r.toNat) (c r.toNat) pc k L st s
  | .invokevirtual _ => s_call (na r.toNat) (c r.toNat) pc k L st s
  | .invokespecial _ => s_call (na r.toNat) (c r.toNat) pc k L st s
  | .ireturn => s_ret bret st s
  | .lreturn => s_lret st s
  | .return_ => (match st with
    | [] => some (s, [])
    | _ => none)
  | .new _ => bif md then s_new shp r.toNat pc k L st s else none
  | .newarray _ => bif md then s_newa shp r.toNat pc k L st s else none
  | .multianewarray _ _ => bif md then s_newm shp pc k L st s else none
  | _ => none
/-- a method's data: how many locals, how many arguments, whether it answers a boolean, 0 or its class's number and one -/
abbrev ev_D : Type := Nat × (Nat × (Bool × Nat))
def ev_chk (kd ml : Nat) (as : List ev_V) : Bool := Nat.ble (ev_cats as) ml && (match kd with
  | 0 => true
  | ci + 1 => match as with
    | .inr (.inr (g, _)) :: _ => (match shp g with
      | (0, (c, _)) => Nat.beq c ci
      | _ => false)
    | _ => false)
noncomputable def ev (cod : Nat → List (List ev_E)) (dat : Nat → ev_D) (prm : Nat → Option (List ev_V → ev_M → Option ev_O)) (md : Bool) (f : Nat) : Nat → Nat → ev_L → List ev_V → ev_M → Option ev_O :=
  Nat.rec (fun _ _ _ _ _ => none) (fun _ ih M pc L st s => match ev_fnd2 (cod M) pc with
    | some q => ev_sem shp rfT md (fun c => (dat c).2.1) (dat M).2.2.1 q.1 q.2.1 q.2.2.1 pc (fun c as s => match prm c with
      | some w => w as s
      | none => bif ev_chk shp (dat c).2.2.2 (dat c).1 as then ih c 0 (ev_ent as (dat c).1) [] s else none) (ih M) (ev_clr L q.2.2.2) st s
    | none => none) f
end EV
def sn_cnt (q : Nat × (Nat × (Nat × Nat))) : Nat := match q with
  | (1, (_, (x, _))) => x
  | (2, (_, (x, _))) => x
  | (3, (_, (x, _))) => x
  | (4, (_, (x, _))) => x
  | _ => 1
