/-! THE ABSTRACT MACHINE, its steps. A memory: the shapes of its cells (kind, size), ints, references, longs. Kinds: 0..10 objects of the classes of 'am_cl'; 20 int rows, 21 boolean rows, 22..24 rows of Pourer, Text, Sheet; 25 a byte row, 26 a String. Cells 0..4 are not the law's own: 0 the script, 1 UNDER, 2 WORDS, 3 its bytes, 4 the formatter (which nobody uses). -/
abbrev am_M : Type := List (Nat × Nat) × (Nat → Nat → Int32) × (Nat → Nat → Option Nat) × (Nat → Nat → Int64)
abbrev am_L : Type := List (Option Value)
abbrev am_V : Type := Option Value × am_M
/-- an instruction: as decoded; its length, its sort (0 goes on, 1 jumps, 2 calls, 3 ends), x y z w; a number; a switch's table -/
abbrev am_P : Type := Instr × (Nat × Nat × Nat × Nat × Nat × Nat) × Int32 × List (Int32 × Nat)
abbrev am_K : Type := Bool → am_M → am_L → List Value → Option am_V
abbrev am_Q : Type := Option (Bool × am_M × am_L × List Value)
abbrev am_len (i : am_P) : Nat := i.2.1.1
abbrev am_srt (i : am_P) : Nat := i.2.1.2.1
abbrev am_x (i : am_P) : Nat := i.2.1.2.2.1
abbrev am_y (i : am_P) : Nat := i.2.1.2.2.2.1
abbrev am_z (i : am_P) : Nat := i.2.1.2.2.2.2.1
abbrev am_w (i : am_P) : Nat := i.2.1.2.2.2.2.2
abbrev am_im (i : am_P) : Int32 := i.2.2.1
abbrev am_tb (i : am_P) : List (Int32 × Nat) := i.2.2.2
noncomputable def am_u2 {α : Type} (f : Nat → Nat → α) (a k : Nat) (v : α) : Nat → Nat → α := fun x y => if x = a ∧ y = k then v else f x y
/-- a whole row anew -/
noncomputable def am_u1 {α : Type} (f : Nat → Nat → α) (a : Nat) (g : Nat → α) : Nat → Nat → α := fun x y => if x = a then g y else f x y
/-- the cell at a is of kind c -/
noncomputable def am_kd (M : am_M) (a c : Nat) : Bool := match M.1[a]? with
  | some q => Nat.beq q.1 c
  | none => false
noncomputable def am_ln (M : am_M) (a : Nat) : Nat := match M.1[a]? with
  | some q => q.2
  | none => 0
noncomputable def am_inb (j : Int32) (n : Nat) : Bool := decide (¬ (j < 0 ∨ n ≤ j.toNatClampNeg))
noncomputable def am_isb (x : Int32) : Bool := decide (x = 0 ∨ x = 1)
noncomputable def am_nz (x : Int32) : Bool := decide (¬ x = 0)
noncomputable def am_nzl (x : Int64) : Bool := decide (¬ x = 0)
noncomputable def am_isT (t : Nat) (v : Value) : Bool := match v with
  | .int _ => Nat.beq t 0
  | .long _ => Nat.beq t 2
  | .ref _ => Nat.beq t 1
  | .null => Nat.beq t 1
  | _ => false
noncomputable def am_ld (t x : Nat) (M : am_M) (L : am_L) (S : List Value) : am_Q := match L[x]? with
  | some (some v) => cond (am_isT t v) (some (true, M, L, v :: S)) none
  | _ => none
noncomputable def am_isl (o : Option (Option Value)) : Bool := match o with
  | some (some (.long _)) => true
  | _ => false
noncomputable def am_clr (L : am_L) (x : Nat) : am_L := match x with
  | 0 => L
  | y + 1 => cond (am_isl L[y]?) (L.set y none) L
noncomputable def am_set1 (L : am_L) (x : Nat) (v : Value) : am_L := (am_clr L x).set x (some v)
noncomputable def am_set2 (L : am_L) (x : Nat) (v : Value) : am_L := ((am_clr L x).set x (some v)).set (x + 1) none
noncomputable def am_so (t x : Nat) (M : am_M) (L : am_L) (S : List Value) : am_Q := match S with
  | v :: r => cond (am_isT t v && Nat.blt x L.length) (some (true, M, am_set1 L x v, r)) none
  | _ => none
noncomputable def am_so2 (x : Nat) (M : am_M) (L : am_L) (S : List Value) : am_Q := match S with
  | .long v :: r => cond (Nat.blt (x + 1) L.length) (some (true, M, am_set2 L x (.long v), r)) none
  | _ => none
noncomputable def am_inc (x : Nat) (n : Int32) (M : am_M) (L : am_L) (S : List Value) : am_Q := match L[x]? with
  | some (some (.int v)) => some (true, M, am_set1 L x (.int (v + n)), S)
  | _ => none
noncomputable def am_psh (v : Value) (M : am_M) (L : am_L) (S : List Value) : am_Q := some (true, M, L, v :: S)
noncomputable def am_b2 (g : Int32 → Int32 → Int32) (M : am_M) (L : am_L) (S : List Value) : am_Q := match S with
  | .int y :: .int x :: r => some (true, M, L, .int (g x y) :: r)
  | _ => none
noncomputable def am_d2 (g : Int32 → Int32 → Int32) (M : am_M) (L : am_L) (S : List Value) : am_Q := match S with
  | .int y :: .int x :: r => some (am_nz y, M, L, .int (g x y) :: r)
  | _ => none
noncomputable def am_b1 (g : Int32 → Int32) (M : am_M) (L : am_L) (S : List Value) : am_Q := match S with
  | .int x :: r => some (true, M, L, .int (g x) :: r)
  | _ => none
noncomputable def am_l2 (g : Int64 → Int64 → Int64) (M : am_M) (L : am_L) (S : List Value) : am_Q := match S with
  | .long y :: .long x :: r => some (true, M, L, .long (g x y) :: r)
  | _ => none
noncomputable def am_e2 (g : Int64 → Int64 → Int64) (M : am_M) (L : am_L) (S : List Value) : am_Q := match S with
  | .long y :: .long x :: r => some (am_nzl y, M, L, .long (g x y) :: r)
  | _ => none
noncomputable def am_cmp (M : am_M) (L : am_L) (S : List Value) : am_Q := match S with
  | .long y :: .long x :: r => some (true, M, L, .int (lg_cmp x y) :: r)
  | _ => none
noncomputable def am_i2l (M : am_M) (L : am_L) (S : List Value) : am_Q := match S with
  | .int x :: r => some (true, M, L, .long x.toInt64 :: r)
  | _ => none
noncomputable def am_l2i (M : am_M) (L : am_L) (S : List Value) : am_Q := match S with
  | .long x :: r => some (true, M, L, .int x.toInt32 :: r)
  | _ => none
noncomputable def am_c1 (v : Value) : Bool := am_isT 0 v || am_isT 1 v
noncomputable def am_dup (M : am_M) (L : am_L) (S : List Value) : am_Q := match S with
  | v :: r => cond (am_c1 v) (some (true, M, L, v :: v :: r)) none
  | _ => none
noncomputable def am_dp2 (M : am_M) (L : am_L) (S : List Value) : am_Q := match S with
  | v :: u :: r => cond (am_c1 v && am_c1 u) (some (true, M, L, v :: u :: v :: u :: r)) none
  | _ => none
noncomputable def am_pop1 (M : am_M) (L : am_L) (S : List Value) : am_Q := match S with
  | v :: r => cond (am_c1 v) (some (true, M, L, r)) none
  | _ => none
noncomputable def am_rd (w : Nat) (M : am_M) (a k : Nat) : Value := match w with
  | 1 => va_rf (M.2.2.1 a k)
  | 2 => .long (M.2.2.2 a k)
  | _ => .int (M.2.1 a k)
noncomputable def am_gf (c k w : Nat) (M : am_M) (L : am_L) (S : List Value) : am_Q := match S with
  | .ref a :: r => some (am_kd M a c, M, L, am_rd w M a k :: r)
  | _ => none
noncomputable def am_pf (c k w : Nat) (M : am_M) (L : am_L) (S : List Value) : am_Q := match S with
  | .int v :: .ref a :: r => cond (Nat.beq w 0) (some (am_kd M a c && Nat.ble 5 a, (M.1, am_u2 M.2.1 a k v, M.2.2.1, M.2.2.2), L, r)) (cond (Nat.beq w 3) (some (am_kd M a c && (Nat.ble 5 a && am_isb v), (M.1, am_u2 M.2.1 a k v, M.2.2.1, M.2.2.2), L, r)) none)
  | .long v :: .ref a :: r => cond (Nat.beq w 2) (some (am_kd M a c && Nat.ble 5 a, (M.1, M.2.1, M.2.2.1, am_u2 M.2.2.2 a k v), L, r)) none
  | .ref v :: .ref a :: r => cond (Nat.beq w 1) (some (am_kd M a c && (Nat.ble 5 a && Nat.ble 5 v), (M.1, M.2.1, am_u2 M.2.2.1 a k (some v), M.2.2.2), L, r)) none
  | _ => none
noncomputable def am_gs (x : Nat) : Value := match x with
  | 0 => .ref 1
  | 1 => .int 1
  | _ => .ref 4
noncomputable def am_ia (c : Nat) (M : am_M) (L : am_L) (S : List Value) : am_Q := match S with
  | .int j :: .ref a :: r => some (am_kd M a c && am_inb j (am_ln M a), M, L, .int (M.2.1 a j.toNatClampNeg) :: r)
  | _ => none
noncomputable def am_aa (c : Nat) (M : am_M) (L : am_L) (S : List Value) : am_Q := match S with
  | .int j :: .ref a :: r => some (am_kd M a c && (Nat.ble 5 a && am_inb j (am_ln M a)), M, L, va_rf (M.2.2.1 a j.toNatClampNeg) :: r)
  | _ => none
noncomputable def am_is (M : am_M) (L : am_L) (S : List Value) : am_Q := match S with
  | .int v :: .int j :: .ref a :: r => some (am_kd M a 20 && (Nat.ble 5 a && am_inb j (am_ln M a)), (M.1, am_u2 M.2.1 a j.toNatClampNeg v, M.2.2.1, M.2.2.2), L, r)
  | _ => none
noncomputable def am_bs (M : am_M) (L : am_L) (S : List Value) : am_Q := match S with
  | .int v :: .int j :: .ref a :: r => some (am_kd M a 21 && (Nat.ble 5 a && am_inb j (am_ln M a)), (M.1, am_u2 M.2.1 a j.toNatClampNeg (v &&& 1), M.2.2.1, M.2.2.2), L, r)
  | _ => none
noncomputable def am_as (c y : Nat) (M : am_M) (L : am_L) (S : List Value) : am_Q := match S with
  | .ref v :: .int j :: .ref a :: r => some (am_kd M a c && (Nat.ble 5 a && (am_kd M v y && (Nat.ble 5 v && am_inb j (am_ln M a)))), (M.1, M.2.1, am_u2 M.2.2.1 a j.toNatClampNeg (some v), M.2.2.2), L, r)
  | _ => none
noncomputable def am_al (M : am_M) (L : am_L) (S : List Value) : am_Q := match S with
  | .ref a :: r => some (am_kd M a 20 || am_kd M a 25, M, L, .int (nI (am_ln M a)) :: r)
  | _ => none
/-- a new cell, all 0 -/
noncomputable def am_nw (c n : Nat) (M : am_M) : am_M := (M.1 ++ [(c, n)], am_u1 M.2.1 M.1.length (fun _ => 0), am_u1 M.2.2.1 M.1.length (fun _ => none), am_u1 M.2.2.2 M.1.length (fun _ => 0))
noncomputable def am_na (c : Nat) (M : am_M) (L : am_L) (S : List Value) : am_Q := match S with
  | .int n :: r => some (decide (¬ n < 0) && Nat.ble n.toNatClampNeg 100000, am_nw c n.toNatClampNeg M, L, .ref M.1.length :: r)
  | _ => none
noncomputable def am_no (c n : Nat) (M : am_M) (L : am_L) (S : List Value) : am_Q := some (true, am_nw c n M, L, .ref M.1.length :: S)
/-- Object's constructor -/
noncomputable def am_oi (d : Nat) (M : am_M) (L : am_L) (S : List Value) : am_Q := match S with
  | [.ref a] => some (Nat.ble 1 d && Nat.ble 5 a, M, L, [])
  | _ => none
noncomputable def am_cat (S : List Value) : Nat := (S.map fun v => v.category).sum
/-- System.arraycopy, of int rows -/
noncomputable def am_cp (d : Nat) (M : am_M) (L : am_L) (S : List Value) : am_Q := match S with
  | .int n :: .int dp :: .ref a :: .int sp :: .ref a0 :: r => some (Nat.ble 1 d && (Nat.ble (am_cat r) 8 && (am_kd M a0 20 && (Nat.ble 5 a0 && (am_kd M a 20 && (Nat.ble 5 a && decide (¬ sp < 0 ∧ ¬ dp < 0 ∧ ¬ n < 0 ∧ sp.toNatClampNeg + n.toNatClampNeg ≤ am_ln M a0 ∧ dp.toNatClampNeg + n.toNatClampNeg ≤ am_ln M a)))))), (M.1, am_u1 M.2.1 a (va_cpy (M.2.1 a0) (M.2.1 a) sp.toNatClampNeg dp.toNatClampNeg n.toNatClampNeg), M.2.2.1, M.2.2.2), L, r)
  | _ => none
/-- Math.max, min, abs -/
noncomputable def am_ma (d w : Nat) (M : am_M) (L : am_L) (S : List Value) : am_Q := match w with
  | 1 => (match S with | .int y :: .int x :: r => some (Nat.ble 1 d && Nat.ble (am_cat r) 8, M, L, .int (if x < y then y else x) :: r) | _ => none)
  | 2 => (match S with | .int y :: .int x :: r => some (Nat.ble 1 d && Nat.ble (am_cat r) 8, M, L, .int (if y < x then y else x) :: r) | _ => none)
  | _ => (match S with | .int x :: r => some (Nat.ble 1 d && Nat.ble (am_cat r) 8, M, L, .int (if 0 ≤ x then x else 0 - x) :: r) | _ => none)
/-- the long numbers that the code names -/
noncomputable def am_kl (x : Nat) : Int64 := match x with
  | 0 => 0
  | 1 => 1
  | 2 => 2
  | 3 => 3
  | 4 => 4
  | 5 => 5
  | 7 => 7
  | 9 => 9
  | 10 => 10
  | 20 => 20
  | 24 => 24
  | 25 => 25
  | 43 => 43
  | 48 => 48
  | 57 => 57
  | 60 => 60
  | 97 => 97
  | 99 => 99
  | 122 => 122
  | 255 => 255
  | 99999 => 99999
  | 100001 => -1
  | _ => -4611686018427387904
noncomputable def am_s1 (d : Nat) (i : am_P) (M : am_M) (L : am_L) (S : List Value) : am_Q := match i.1 with
  | .aload_n _ => am_ld 1 (am_x i) M L S
  | .aload _ => am_ld 1 (am_x i) M L S
  | .iload_n _ => am_ld 0 (am_x i) M L S
  | .iload _ => am_ld 0 (am_x i) M L S
  | .lload_n _ => am_ld 2 (am_x i) M L S
  | .lload _ => am_ld 2 (am_x i) M L S
  | .astore_n _ => am_so 1 (am_x i) M L S
  | .astore _ => am_so 1 (am_x i) M L S
  | .istore_n _ => am_so 0 (am_x i) M L S
  | .istore _ => am_so 0 (am_x i) M L S
  | .lstore_n _ => am_so2 (am_x i) M L S
  | .lstore _ => am_so2 (am_x i) M L S
  | .iinc _ _ => am_inc (am_x i) (am_im i) M L S
  | .iconst _ => am_psh (.int (am_im i)) M L S
  | .bipush _ => am_psh (.int (am_im i)) M L S
  | .sipush _ => am_psh (.int (am_im i)) M L S
  | .ldc _ => am_psh (cond (Nat.beq (am_w i) 1) (.ref 2) (.int (am_im i))) M L S
  | .ldc_w _ => am_psh (.int (am_im i)) M L S
  | .lconst _ => am_psh (.long (am_kl (am_x i))) M L S
  | .ldc2_w _ => am_psh (.long (am_kl (am_x i))) M L S
  | .aconst_null => am_psh .null M L S
  | .iadd => am_b2 (fun a b => a + b) M L S
  | .isub => am_b2 (fun a b => a - b) M L S
  | .imul => am_b2 (fun a b => a * b) M L S
  | .iand => am_b2 (fun a b => a &&& b) M L S
  | .ior => am_b2 (fun a b => a ||| b) M L S
  | .ishl => am_b2 (fun a b => a <<< (b &&& 31)) M L S
  | .ishr => am_b2 (fun a b => a >>> (b &&& 31)) M L S
  | .iushr => am_b2 (fun a b => (a.toUInt32 >>> (b.toUInt32 &&& Int32.toUInt32 31)).toInt32) M L S
  | .idiv => am_d2 (fun a b => a / b) M L S
  | .irem => am_d2 (fun a b => a - a / b * b) M L S
  | .ineg => am_b1 (fun a => -a) M L S
  | .i2b => am_b1 (fun a => a.toInt8.toInt32) M L S
  | .i2s => am_b1 (fun a => a.toInt16.toInt32) M L S
  | .i2c => am_b1 (fun a => (a.toUInt32 % 65536).toInt32) M L S
  | .ladd => am_l2 (fun a b => a + b) M L S
  | .lsub => am_l2 (fun a b => a - b) M L S
  | .lmul => am_l2 (fun a b => a * b) M L S
  | .ldiv => am_e2 (fun a b => a / b) M L S
  | .lrem => am_e2 (fun a b => a - a / b * b) M L S
  | .lcmp => am_cmp M L S
  | .i2l => am_i2l M L S
  | .l2i => am_l2i M L S
  | .dup => am_dup M L S
  | .dup2 => am_dp2 M L S
  | .pop => am_pop1 M L S
  | .getfield _ => am_gf (am_x i) (am_y i) (am_w i) M L S
  | .putfield _ => am_pf (am_x i) (am_y i) (am_w i) M L S
  | .getstatic _ => am_psh (am_gs (am_x i)) M L S
  | .iaload => am_ia 20 M L S
  | .baload => am_ia (am_x i) M L S
  | .aaload => am_aa (am_x i) M L S
  | .iastore => am_is M L S
  | .bastore => am_bs M L S
  | .aastore => am_as (am_x i) (am_y i) M L S
  | .arraylength => am_al M L S
  | .newarray _ => am_na (am_x i) M L S
  | .anewarray _ => am_na (am_x i) M L S
  | .new _ => am_no (am_x i) (am_y i) M L S
  | .invokespecial _ => am_oi d M L S
  | .invokestatic _ => (match am_w i with | 0 => am_cp d M L S | w + 1 => am_ma d (w + 1) M L S)
  | _ => none
/-- a switch: the block of the first like number -/
noncomputable def am_swt (a : Int32) (dflt : Nat) (tb : List (Int32 × Nat)) : Nat := @List.rec (Int32 × Nat) (fun _ => Nat) dflt (fun q _ ih => if a = q.1 then q.2 else ih) tb
noncomputable def am_s2 (i : am_P) (S : List Value) : Option (Nat × List Value) := match i.1 with
  | .goto _ => some (am_x i, S)
  | .nop => some (am_x i, S)
  | .ifCond .eq _ => (match S with | .int a :: r => some (if a = 0 then am_x i else am_y i, r) | _ => none)
  | .ifCond .ne _ => (match S with | .int a :: r => some (if a = 0 then am_y i else am_x i, r) | _ => none)
  | .ifCond .lt _ => (match S with | .int a :: r => some (if a < 0 then am_x i else am_y i, r) | _ => none)
  | .ifCond .ge _ => (match S with | .int a :: r => some (if a < 0 then am_y i else am_x i, r) | _ => none)
  | .ifCond .gt _ => (match S with | .int a :: r => some (if 0 < a then am_x i else am_y i, r) | _ => none)
  | .ifCond .le _ => (match S with | .int a :: r => some (if 0 < a then am_y i else am_x i, r) | _ => none)
  | .if_icmp .eq _ => (match S with | .int b :: .int a :: r => some (if a = b then am_x i else am_y i, r) | _ => none)
  | .if_icmp .ne _ => (match S with | .int b :: .int a :: r => some (if a = b then am_y i else am_x i, r) | _ => none)
  | .if_icmp .lt _ => (match S with | .int b :: .int a :: r => some (if a < b then am_x i else am_y i, r) | _ => none)
  | .if_icmp .ge _ => (match S with | .int b :: .int a :: r => some (if a < b then am_y i else am_x i, r) | _ => none)
  | .if_icmp .gt _ => (match S with | .int b :: .int a :: r => some (if b < a then am_x i else am_y i, r) | _ => none)
  | .if_icmp .le _ => (match S with | .int b :: .int a :: r => some (if b < a then am_y i else am_x i, r) | _ => none)
  | .ifnonnull _ => (match S with | .null :: r => some (am_y i, r) | .ref a :: r => cond (Nat.ble 5 a) (some (am_x i, r)) none | _ => none)
  | .tableswitch _ _ _ _ => (match S with | .int a :: r => some (am_swt a (am_y i) (am_tb i), r) | _ => none)
  | .lookupswitch _ _ => (match S with | .int a :: r => some (am_swt a (am_y i) (am_tb i), r) | _ => none)
  | _ => none
/-- n off the stack, the deepest first, and what is left -/
noncomputable def am_tk (n : Nat) : List Value → List Value → Option (List Value × List Value) := @Nat.rec (fun _ => List Value → List Value → Option (List Value × List Value)) (fun acc S => some (acc, S)) (fun _ ih acc S => match S with | v :: r => ih (v :: acc) r | [] => none) n
noncomputable def am_rcv (M : am_M) (w : Nat) (as : List Value) : Bool := match w with
  | 0 => true
  | c + 1 => (match as with | .ref a :: _ => am_kd M a c && (Nat.ble 5 a || Nat.beq a 2) | _ => false)
/-- a call: of method x with z numbers, then block y; w: 1 more than the kind of what it is called on, or 0 -/
noncomputable def am_s3 (i : am_P) (M : am_M) (S : List Value) : Option (Bool × List Value × List Value) := match am_tk (am_z i) [] S with
  | some q => some (Nat.ble (am_cat q.2) 8 && am_rcv M (am_w i) q.1, q.1, q.2)
  | none => none
noncomputable def am_nar (w : Nat) (x : Int32) : Int32 := match w with
  | 0 => x
  | 1 => x &&& 1
  | 2 => x.toUInt32.toUInt16.toUInt32.toInt32
  | _ => x.toInt8.toInt32
noncomputable def am_s4 (i : am_P) (S : List Value) : Option (Option Value) := match i.1 with
  | .ireturn => (match S with | [.int x] => some (some (.int (am_nar (am_w i) x))) | _ => none)
  | .lreturn => (match S with | [.long x] => some (some (.long x)) | _ => none)
  | .areturn => (match S with | [.ref a] => some (some (.ref a)) | [.null] => some (some .null) | _ => none)
  | .return_ => (match S with | [] => some none | _ => none)
  | _ => none
noncomputable def am_sS (d : Nat) (J : Nat → am_M → am_L → List Value → Option am_V) (C : Nat → am_M → List Value → Option am_V) (i : am_P) (k : am_K) (f : Bool) (M : am_M) (L : am_L) (S : List Value) (s : Nat) : Option am_V := match s with
  | 0 => (am_s1 d i M L S).bind (fun q => k (q.1 && f) q.2.1 q.2.2.1 q.2.2.2)
  | 1 => (am_s2 i S).bind (fun q => cond f (J q.1 M L q.2) none)
  | 2 => (am_s3 i M S).bind (fun q => cond (q.1 && f) ((C (am_x i) M q.2.1).bind (fun r => J (am_y i) r.2 L (r.1.toList ++ q.2.2))) none)
  | _ => (am_s4 i S).bind (fun v => cond f (some (v, M)) none)
noncomputable def am_st (d : Nat) (J : Nat → am_M → am_L → List Value → Option am_V) (C : Nat → am_M → List Value → Option am_V) (i : am_P) (k : am_K) : am_K := fun f M L S => am_sS d J C i k f M L S (am_srt i)
noncomputable def am_ex (d : Nat) (J : Nat → am_M → am_L → List Value → Option am_V) (C : Nat → am_M → List Value → Option am_V) (is : List am_P) : am_K := @List.rec am_P (fun _ => am_K) (fun _ _ _ _ => none) (fun i _ ih => am_st d J C i ih) is
/-- the locals that a method of n slots begins with -/
noncomputable def am_sl (vs : List Value) : am_L := @List.rec Value (fun _ => am_L) [] (fun v _ ih => cond (am_isT 2 v) (some v :: none :: ih) (some v :: ih)) vs
noncomputable def am_in (n : Nat) (vs : List Value) : am_L := am_sl vs ++ List.replicate (n - (am_sl vs).length) none
