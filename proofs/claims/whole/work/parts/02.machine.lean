/-! A SMALL MACHINE: what the methods do, as a function over a memory of numbered cells. Cells 0 .. 15 lie outside (0 the script, 1 UNDER, 2 .. 7 texts, 8 .. 13 their bytes, 14 a thing of the JDK's); from 16 on the cells that were made, in order. -/
/-- a row of code: instruction, three numbers, a constant, a switch's table, places of words -/
abbrev qs_Row : Type := Instr × Nat × Nat × Nat × Int32 × List (Int32 × Nat) × List Nat
/-- (how many cells, how many slots), kinds, sizes, links (0 a number, 1 null, k + 2 cell k), ints, longs -/
abbrev qs_M : Type := (Nat × Nat) × (Nat → Nat) × (Nat → Nat) × (Nat → Nat → Nat) × (Nat → Nat → Int32) × (Nat → Nat → Int64)
abbrev qs_R : Type := Option Value × qs_M
abbrev qs_L : Type := List (Option Value)
def qs_n (m : qs_M) : Nat := m.1.1
def qs_z (m : qs_M) : Nat := m.1.2
def qs_kd (m : qs_M) : Nat → Nat := m.2.1
def qs_sz (m : qs_M) : Nat → Nat := m.2.2.1
def qs_lk (m : qs_M) : Nat → Nat → Nat := m.2.2.2.1
def qs_i (m : qs_M) : Nat → Nat → Int32 := m.2.2.2.2.1
def qs_l (m : qs_M) : Nat → Nat → Int64 := m.2.2.2.2.2
/-- an int is written -/
def qs_wi (m : qs_M) (k j : Nat) (x : Int32) : qs_M := (m.1, m.2.1, m.2.2.1, m.2.2.2.1, (fun a b => if a = k ∧ b = j then x else m.2.2.2.2.1 a b), m.2.2.2.2.2)
/-- a long is written -/
def qs_wj (m : qs_M) (k j : Nat) (x : Int64) : qs_M := (m.1, m.2.1, m.2.2.1, m.2.2.2.1, m.2.2.2.2.1, (fun a b => if a = k ∧ b = j then x else m.2.2.2.2.2 a b))
/-- a link is written -/
def qs_wl (m : qs_M) (k j : Nat) (x : Nat) : qs_M := (m.1, m.2.1, m.2.2.1, (fun a b => if a = k ∧ b = j then x else m.2.2.2.1 a b), m.2.2.2.2.1, m.2.2.2.2.2)
/-- ints of a row are copied -/
def qs_cp (m : qs_M) (r1 r2 : Nat) (sp dp n : Nat) : qs_M := (m.1, m.2.1, m.2.2.1, m.2.2.2.1, (fun a b => if a = r2 ∧ dp ≤ b ∧ b < dp + n then m.2.2.2.2.1 r1 (sp + (b - dp)) else m.2.2.2.2.1 a b), m.2.2.2.2.2)
/-- which slots of a new cell are links -/
def qs_dl (t j : Nat) : Nat := match t with
  | 1 => if j < 2 then 1 else 0
  | 2 => if j < 3 then 1 else 0
  | 3 => if j < 2 then 1 else 0
  | 4 => if j < 1 then 1 else 0
  | 5 => if j < 2 then 1 else 0
  | 6 => if j < 1 then 1 else 0
  | 7 => if j < 5 then 1 else if j = 5 then 0 else if j < 9 then 1 else if j = 10 then 1 else 0
  | 8 => if j < 3 then 1 else if j < 4 then 0 else if j < 5 then 1 else if j < 7 then 0 else if j < 9 then 1 else if j < 16 then 0 else if j < 19 then 1 else if j < 21 then 0 else if j < 22 then 1 else if j < 23 then 0 else if j < 35 then 1 else 0
  | _ => if 30 ≤ t then 1 else 0
/-- how many fields a class's objects have -/
def qs_nf (t : Nat) : Nat := match t with
  | 0 => 8
  | 1 => 2
  | 2 => 15
  | 3 => 7
  | 4 => 3
  | 5 => 4
  | 6 => 4
  | 7 => 11
  | 8 => 36
  | _ => 2
/-- which cell is the one that is made behind i others: the seventieth (that of the least) stands behind all others -/
def qn_c (i : Nat) : Nat := bif Nat.ble i 68 then 16 + i else bif Nat.beq i 69 then 139 else bif Nat.ble i 123 then 15 + i else 16 + i
/-- behind how many others a cell is made -/
def qn_x (k : Nat) : Nat := bif Nat.ble k 84 then k - 16 else bif Nat.ble k 138 then k - 15 else bif Nat.beq k 139 then 69 else k - 16
theorem qn_ci (i : Nat) : qn_c i = if i ≤ 68 then 16 + i else if i = 69 then 139 else if i ≤ 123 then 15 + i else 16 + i := by
  unfold qn_c
  simp only [Bool.cond_eq_ite, Nat.ble_eq, Nat.beq_eq]
theorem qn_xi (k : Nat) : qn_x k = if k ≤ 84 then k - 16 else if k ≤ 138 then k - 15 else if k = 139 then 69 else k - 16 := by
  unfold qn_x
  simp only [Bool.cond_eq_ite, Nat.ble_eq, Nat.beq_eq]
theorem qn_16 (i : Nat) : 16 ≤ qn_c i := by
  rw [qn_ci]
  repeat' split
  all_goals omega
theorem qn_cx {k : Nat} (h : 16 ≤ k) : qn_c (qn_x k) = k := by
  rw [qn_ci, qn_xi]
  repeat' split
  all_goals omega
theorem qn_xc (i : Nat) : qn_x (qn_c i) = i := by
  rw [qn_ci, qn_xi]
  repeat' split
  all_goals omega
theorem qn_ne {i k : Nat} (h : qn_x k ≠ i) : k ≠ qn_c i := fun e => h (by rw [e, qn_xc])
theorem qn_lt {i k : Nat} (hk : k < 16) : k ≠ qn_c i := by
  have := qn_16 i
  omega
/-- a new cell of kind t and size s -/
def qs_nw (m : qs_M) (t s : Nat) : qs_M := ((m.1.1 + 1, m.1.2 + s), (fun a => if a = qn_c m.1.1 then t else m.2.1 a), (fun a => if a = qn_c m.1.1 then s else m.2.2.1 a), (fun a b => if a = qn_c m.1.1 then qs_dl t b else m.2.2.2.1 a b), (fun a b => if a = qn_c m.1.1 then 0 else m.2.2.2.2.1 a b), (fun a b => if a = qn_c m.1.1 then 0 else m.2.2.2.2.2 a b))
def qs_get : qs_L → Nat → Option Value
  | [], _ => none
  | h :: _, 0 => h
  | _ :: r, n + 1 => qs_get r n
def qs_w2 : Option Value → Bool
  | some (.long _) => true
  | some (.double _) => true
  | _ => false
def qs_put : qs_L → Nat → Value → qs_L
  | [], _, _ => []
  | _ :: r, 0, v => some v :: r
  | h :: r, 1, v => (bif qs_w2 h then none else h) :: qs_put r 0 v
  | h :: r, n + 2, v => h :: qs_put r (n + 1) v
def qs_clr : qs_L → qs_L
  | [] => []
  | _ :: r => none :: r
def qs_put2 : qs_L → Nat → Value → qs_L
  | [], _, _ => []
  | _ :: r, 0, v => some v :: qs_clr r
  | h :: r, 1, v => (bif qs_w2 h then none else h) :: qs_put2 r 0 v
  | h :: r, n + 2, v => h :: qs_put2 r (n + 1) v
def qs_pop : Nat → List Value → List Value → Option (List Value × List Value)
  | 0, st, acc => some (acc, st)
  | n + 1, v :: st, acc => qs_pop n st (v :: acc)
  | _ + 1, [], _ => none
def qs_sum : List Value → Nat
  | [] => 0
  | v :: r => v.category + qs_sum r
def qs_sw {ρ : Type} (x : Int32) : List (Int32 × Nat) → Nat → (Nat → ρ) → ρ
  | [], d, k => k d
  | (v, t) :: r, d, k => if x = v then k t else qs_sw x r d k
def qs_bI (x : Option qs_R) (f : Int32 → qs_M → Option qs_R) : Option qs_R := match x with
  | some (some (.int r), m) => f r m
  | _ => none
def qs_bV (x : Option qs_R) (f : qs_M → Option qs_R) : Option qs_R := match x with
  | some (none, m) => f m
  | _ => none
def qs_con (rk : Nat) (x : Option qs_R) (f : List Value → qs_M → Option qs_R) : Option qs_R := match rk with
  | 0 => qs_bV x (fun m => f [] m)
  | _ => qs_bI x (fun r m => f [.int r] m)
def qs_max (x y : Int32) : Int32 := if x < y then y else x
def qs_min (x y : Int32) : Int32 := if y < x then y else x
def qs_abs (x : Int32) : Int32 := if 0 ≤ x then x else 0 - x
/-- one instruction: it fails (fl), returns (rt), calls (cl) or goes on (k) -/
def qs_stp {ρ : Type} (rk : Nat) (fl : ρ) (rt : qs_R → ρ) (cl : Nat → Nat → List Value → qs_M → Nat → qs_L → List Value → ρ) (k : Nat → qs_L → List Value → qs_M → ρ) (pc : Nat) (L : qs_L) (st : List Value) (m : qs_M) (i : Instr) (a b c : Nat) (v : Int32) (sw : List (Int32 × Nat)) : ρ :=
  match i with
  | .iconst _ => k (pc + 1) L (.int v :: st) m
  | .bipush _ => k (pc + 2) L (.int v :: st) m
  | .sipush _ => k (pc + 3) L (.int v :: st) m
  | .lconst _ => k (pc + 1) L (.long 0 :: st) m
  | .ldc _ => match a with
    | 0 => k (pc + 2) L (.int v :: st) m
    | q + 1 => k (pc + 2) L (.ref (q + 1) :: st) m
  | .ldc_w _ => k (pc + 3) L (.int v :: st) m
  | .iload_n _ => match qs_get L a with
    | some (.int x) => k (pc + 1) L (.int x :: st) m
    | _ => fl
  | .iload _ => match qs_get L a with
    | some (.int x) => k (pc + 2) L (.int x :: st) m
    | _ => fl
  | .aload_n _ => match qs_get L a with
    | some (.ref x) => k (pc + 1) L (.ref x :: st) m
    | _ => fl
  | .aload _ => match qs_get L a with
    | some (.ref x) => k (pc + 2) L (.ref x :: st) m
    | _ => fl
  | .lload _ => match qs_get L a with
    | some (.long x) => k (pc + 2) L (.long x :: st) m
    | _ => fl
  | .istore_n _ => match st with
    | .int x :: st => k (pc + 1) (qs_put L a (.int x)) st m
    | _ => fl
  | .istore _ => match st with
    | .int x :: st => k (pc + 2) (qs_put L a (.int x)) st m
    | _ => fl
  | .astore_n _ => match st with
    | .ref x :: st => k (pc + 1) (qs_put L a (.ref x)) st m
    | _ => fl
  | .astore _ => match st with
    | .ref x :: st => k (pc + 2) (qs_put L a (.ref x)) st m
    | _ => fl
  | .lstore _ => match st with
    | .long x :: st => k (pc + 2) (qs_put2 L a (.long x)) st m
    | _ => fl
  | .iinc _ _ => match qs_get L a with
    | some (.int x) => k (pc + 3) (qs_put L a (.int (x + v))) st m
    | _ => fl
  | .iadd => match st with
    | .int y :: .int x :: st => k (pc + 1) L (.int (x + y) :: st) m
    | _ => fl
  | .isub => match st with
    | .int y :: .int x :: st => k (pc + 1) L (.int (x - y) :: st) m
    | _ => fl
  | .imul => match st with
    | .int y :: .int x :: st => k (pc + 1) L (.int (x * y) :: st) m
    | _ => fl
  | .iand => match st with
    | .int y :: .int x :: st => k (pc + 1) L (.int (x &&& y) :: st) m
    | _ => fl
  | .ior => match st with
    | .int y :: .int x :: st => k (pc + 1) L (.int (x ||| y) :: st) m
    | _ => fl
  | .ishl => match st with
    | .int y :: .int x :: st => k (pc + 1) L (.int (x <<< (y &&& 31)) :: st) m
    | _ => fl
  | .ishr => match st with
    | .int y :: .int x :: st => k (pc + 1) L (.int (x >>> (y &&& 31)) :: st) m
    | _ => fl
  | .iushr => match st with
    | .int y :: .int x :: st => k (pc + 1) L (.int (x.toUInt32 >>> (y.toUInt32 &&& Int32.toUInt32 31)).toInt32 :: st) m
    | _ => fl
  | .idiv => match st with
    | .int y :: .int x :: st => if y = 0 then fl else k (pc + 1) L (.int (x / y) :: st) m
    | _ => fl
  | .irem => match st with
    | .int y :: .int x :: st => if y = 0 then fl else k (pc + 1) L (.int (x - x / y * y) :: st) m
    | _ => fl
  | .ineg => match st with
    | .int x :: st => k (pc + 1) L (.int (-x) :: st) m
    | _ => fl
  | .i2c => match st with
    | .int x :: st => k (pc + 1) L (.int (x.toUInt32 % 65536).toInt32 :: st) m
    | _ => fl
  | .i2s => match st with
    | .int x :: st => k (pc + 1) L (.int x.toInt16.toInt32 :: st) m
    | _ => fl
  | .i2b => match st with
    | .int x :: st => k (pc + 1) L (.int x.toInt8.toInt32 :: st) m
    | _ => fl
  | .i2l => match st with
    | .int x :: st => k (pc + 1) L (.long x.toInt64 :: st) m
    | _ => fl
  | .l2i => match st with
    | .long x :: st => k (pc + 1) L (.int x.toInt32 :: st) m
    | _ => fl
  | .ladd => match st with
    | .long y :: .long x :: st => k (pc + 1) L (.long (x + y) :: st) m
    | _ => fl
  | .lsub => match st with
    | .long y :: .long x :: st => k (pc + 1) L (.long (x - y) :: st) m
    | _ => fl
  | .lneg => match st with
    | .long x :: st => k (pc + 1) L (.long (-x) :: st) m
    | _ => fl
  | .lcmp => match st with
    | .long y :: .long x :: st => k (pc + 1) L (.int (lg_cmp x y) :: st) m
    | _ => fl
  | .dup => match st with
    | x :: st => if x.category = 1 then k (pc + 1) L (x :: x :: st) m else fl
    | _ => fl
  | .pop => match st with
    | x :: st => if x.category = 1 then k (pc + 1) L st m else fl
    | _ => fl
  | .dup2 => match st with
    | x :: y :: st => if x.category = 1 ∧ y.category = 1 then k (pc + 1) L (x :: y :: x :: y :: st) m else fl
    | _ => fl
  | .ifCond cd _ => match st with
    | .int x :: st => match cd with
      | .eq => if x = 0 then k a L st m else k (pc + 3) L st m
      | .ne => if x = 0 then k (pc + 3) L st m else k a L st m
      | .lt => if x < 0 then k a L st m else k (pc + 3) L st m
      | .ge => if 0 ≤ x then k a L st m else k (pc + 3) L st m
      | .gt => if 0 < x then k a L st m else k (pc + 3) L st m
      | .le => if x ≤ 0 then k a L st m else k (pc + 3) L st m
    | _ => fl
  | .if_icmp cd _ => match st with
    | .int y :: .int x :: st => match cd with
      | .eq => if x = y then k a L st m else k (pc + 3) L st m
      | .ne => if x = y then k (pc + 3) L st m else k a L st m
      | .lt => if x < y then k a L st m else k (pc + 3) L st m
      | .ge => if y ≤ x then k a L st m else k (pc + 3) L st m
      | .gt => if y < x then k a L st m else k (pc + 3) L st m
      | .le => if x ≤ y then k a L st m else k (pc + 3) L st m
    | _ => fl
  | .goto _ => k a L st m
  | .tableswitch _ _ _ _ => match st with
    | .int x :: st => qs_sw x sw a (fun t => k t L st m)
    | _ => fl
  | .lookupswitch _ _ => match st with
    | .int x :: st => qs_sw x sw a (fun t => k t L st m)
    | _ => fl
  | .getfield _ => match st with
    | .ref r :: st => match c with
      | 1 => if qs_kd m r = a ∧ 2 ≤ qs_lk m r b then k (pc + 3) L (.ref (qs_lk m r b - 2) :: st) m else fl
      | _ => if qs_kd m r = a ∧ qs_lk m r b = 0 then k (pc + 3) L (.int (qs_i m r b) :: st) m else fl
    | _ => fl
  | .putfield _ => match st with
    | .int x :: .ref r :: st => match c with
      | 0 => if qs_kd m r = a ∧ qs_lk m r b = 0 then k (pc + 3) L st (qs_wi m r b x) else fl
      | 2 => if qs_kd m r = a ∧ qs_lk m r b = 0 ∧ (x = 0 ∨ x = 1) then k (pc + 3) L st (qs_wi m r b x) else fl
      | _ => fl
    | .ref q :: .ref r :: st => match c with
      | 1 => if qs_kd m r = a ∧ qs_lk m r b = 1 ∧ 16 ≤ q then k (pc + 3) L st (qs_wl m r b (q + 2)) else fl
      | _ => fl
    | _ => fl
  | .getstatic _ => match a with
    | 0 => k (pc + 3) L (.int v :: st) m
    | q + 1 => k (pc + 3) L (.ref (q + 1) :: st) m
  | .iaload => match st with
    | .int x :: .ref r :: st => if qs_kd m r = a ∧ 0 ≤ x ∧ x.toNatClampNeg < qs_sz m r then k (pc + 1) L (.int (qs_i m r x.toNatClampNeg) :: st) m else fl
    | _ => fl
  | .baload => match st with
    | .int x :: .ref r :: st => if qs_kd m r = a ∧ 0 ≤ x ∧ x.toNatClampNeg < qs_sz m r then k (pc + 1) L (.int (qs_i m r x.toNatClampNeg) :: st) m else fl
    | _ => fl
  | .caload => match st with
    | .int x :: .ref r :: st => if qs_kd m r = 22 ∧ 0 ≤ x ∧ x.toNatClampNeg < qs_sz m r then k (pc + 1) L (.int (qs_i m r x.toNatClampNeg) :: st) m else fl
    | _ => fl
  | .laload => match st with
    | .int x :: .ref r :: st => if qs_kd m r = 23 ∧ 0 ≤ x ∧ x.toNatClampNeg < qs_sz m r then k (pc + 1) L (.long (qs_l m r x.toNatClampNeg) :: st) m else fl
    | _ => fl
  | .aaload => match st with
    | .int x :: .ref r :: st => if (30 ≤ qs_kd m r ∧ qs_kd m r < 40) ∧ (0 ≤ x ∧ x.toNatClampNeg < qs_sz m r) ∧ 18 ≤ qs_lk m r x.toNatClampNeg then k (pc + 1) L (.ref (qs_lk m r x.toNatClampNeg - 2) :: st) m else fl
    | _ => fl
  | .iastore => match st with
    | .int y :: .int x :: .ref r :: st => if qs_kd m r = 20 ∧ 0 ≤ x ∧ x.toNatClampNeg < qs_sz m r then k (pc + 1) L st (qs_wi m r x.toNatClampNeg y) else fl
    | _ => fl
  | .bastore => match st with
    | .int y :: .int x :: .ref r :: st => if (qs_kd m r = 21 ∧ 0 ≤ x ∧ x.toNatClampNeg < qs_sz m r) ∧ (y = 0 ∨ y = 1) then k (pc + 1) L st (qs_wi m r x.toNatClampNeg y) else fl
    | _ => fl
  | .castore => match st with
    | .int y :: .int x :: .ref r :: st => if (qs_kd m r = 22 ∧ 0 ≤ x ∧ x.toNatClampNeg < qs_sz m r) ∧ vp_nar .char y = y then k (pc + 1) L st (qs_wi m r x.toNatClampNeg y) else fl
    | _ => fl
  | .lastore => match st with
    | .long y :: .int x :: .ref r :: st => if qs_kd m r = 23 ∧ 0 ≤ x ∧ x.toNatClampNeg < qs_sz m r then k (pc + 1) L st (qs_wj m r x.toNatClampNeg y) else fl
    | _ => fl
  | .aastore => match st with
    | .ref q :: .int x :: .ref r :: st => if (qs_kd m q < 10 ∧ qs_kd m r = qs_kd m q + 30) ∧ 0 ≤ x ∧ x.toNatClampNeg < qs_sz m r then k (pc + 1) L st (qs_wl m r x.toNatClampNeg (q + 2)) else fl
    | _ => fl
  | .arraylength => match st with
    | .ref r :: st => if qs_kd m r = a then k (pc + 1) L (.int (Int32.ofNat (qs_sz m r)) :: st) m else fl
    | _ => fl
  | .new _ => k (pc + 3) L (.ref (qn_c (qs_n m)) :: st) (qs_nw m a (qs_nf a))
  | .newarray _ => match st with
    | .int x :: st => if 0 ≤ x ∧ x.toNatClampNeg ≤ 100000 then k (pc + 2) L (.ref (qn_c (qs_n m)) :: st) (qs_nw m a x.toNatClampNeg) else fl
    | _ => fl
  | .anewarray _ => match st with
    | .int x :: st => if 0 ≤ x ∧ x.toNatClampNeg ≤ 100000 then k (pc + 3) L (.ref (qn_c (qs_n m)) :: st) (qs_nw m a x.toNatClampNeg) else fl
    | _ => fl
  | .invokestatic _ => bif Nat.blt a 1000 then match qs_pop (b / 8) st [] with
      | some (as, rest) => if qs_sum rest ≤ 8 ∧ qs_sum as = b / 8 then cl (b % 8) a as m (pc + 3) L rest else fl
      | none => fl
    else bif a == 1001 then match st with
      | .int n :: .int dp :: .ref r2 :: .int sp :: .ref r1 :: st => if (qs_kd m r1 = 20 ∧ qs_kd m r2 = 20) ∧ (0 ≤ sp ∧ 0 ≤ dp ∧ 0 ≤ n) ∧ (sp.toNatClampNeg + n.toNatClampNeg ≤ qs_sz m r1 ∧ dp.toNatClampNeg + n.toNatClampNeg ≤ qs_sz m r2) ∧ qs_sum st ≤ 8 then k (pc + 3) L st (qs_cp m r1 r2 sp.toNatClampNeg dp.toNatClampNeg n.toNatClampNeg) else fl
      | _ => fl
    else bif a == 1002 then match st with
      | .int y :: .int x :: st => if qs_sum st ≤ 8 then k (pc + 3) L (.int (qs_max x y) :: st) m else fl
      | _ => fl
    else bif a == 1003 then match st with
      | .int y :: .int x :: st => if qs_sum st ≤ 8 then k (pc + 3) L (.int (qs_min x y) :: st) m else fl
      | _ => fl
    else match st with
      | .int x :: st => if qs_sum st ≤ 8 then k (pc + 3) L (.int (qs_abs x) :: st) m else fl
      | _ => fl
  | .invokevirtual _ => match qs_pop (b / 8) st [] with
    | some (as, .ref r :: rest) => if qs_sum rest ≤ 8 ∧ qs_sum as = b / 8 then if qs_kd m r = c then cl (b % 8) a (.ref r :: as) m (pc + 3) L rest else fl else fl
    | _ => fl
  | .invokespecial _ => bif a == 1000 then match st with
      | .ref r :: st => if qs_sum st ≤ 8 ∧ 16 ≤ r then k (pc + 3) L st m else fl
      | _ => fl
    else match qs_pop (b / 8) st [] with
      | some (as, .ref r :: rest) => if qs_sum rest ≤ 8 ∧ qs_sum as = b / 8 then if 16 ≤ r then cl 0 a (.ref r :: as) m (pc + 3) L rest else fl else fl
      | _ => fl
  | .ireturn => match st with
    | [.int x] => match rk with
      | 1 => rt (some (.int x), m)
      | 2 => if x = 0 ∨ x = 1 then rt (some (.int x), m) else fl
      | 3 => if narrow .char (.int x) = .int x then rt (some (.int x), m) else fl
      | 4 => if narrow .byte (.int x) = .int x then rt (some (.int x), m) else fl
      | _ => fl
    | _ => fl
  | .return_ => match st, rk with
    | [], 0 => rt (none, m)
    | _, _ => fl
  | _ => fl
def qs_step (rk : Nat) (call : Nat → List Value → qs_M → Option qs_R) (pc : Nat) (L : qs_L) (st : List Value) (m : qs_M) (i : Instr) (a b c : Nat) (v : Int32) (sw : List (Int32 × Nat)) (k : Nat → qs_L → List Value → qs_M → Option qs_R) : Option qs_R :=
  qs_stp rk none some (fun e M as m pc L rest => qs_con e (call M as m) (fun vs m => k pc L (vs ++ rest) m)) k pc L st m i a b c v sw
def qs_init (n : Nat) (as : List Value) : qs_L := as.map some ++ List.replicate (n - as.length) none
def qs_fetch (cd : List (List (Option qs_Row))) (pc : Nat) : Option qs_Row := match cd[pc / 16]? with
  | some ch => match ch[pc % 16]? with
    | some r => r
    | none => none
  | none => none
/-- a method: its class, name, bytes, locals, what it returns; static 0, instance 1, constructor 2; how many arguments; what it returns (0 nothing, 1 int, 2 boolean, 3 char, 4 byte); its code; places of its words -/
abbrev qs_E : Type := String × MethodName × ByteArray × Nat × Option FieldType × Nat × Nat × Nat × List (List (Option qs_Row)) × List Nat
def qe_own (E : qs_E) : String := E.1
def qe_y (E : qs_E) : MethodName := E.2.1
def qe_b (E : qs_E) : ByteArray := E.2.2.1
def qe_ml (E : qs_E) : Nat := E.2.2.2.1
def qe_rt (E : qs_E) : Option FieldType := E.2.2.2.2.1
def qe_kd (E : qs_E) : Nat := E.2.2.2.2.2.1
def qe_na (E : qs_E) : Nat := E.2.2.2.2.2.2.1
def qe_rk (E : qs_E) : Nat := E.2.2.2.2.2.2.2.1
def qe_cd (E : qs_E) : List (List (Option qs_Row)) := E.2.2.2.2.2.2.2.2.1
def qe_pl (E : qs_E) : List Nat := E.2.2.2.2.2.2.2.2.2
