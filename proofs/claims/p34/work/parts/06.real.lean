/-! The instructions as the class files have them, and what is checked of each of the tables' rows. -/
def pm_f4 (a : Nat) : Fin 4 := ⟨a % 4, Nat.mod_lt _ (by decide)⟩
def pm_cc (b : Nat) : ClassFile.Cond := match b with
  | 0 => .eq
  | 1 => .ne
  | 2 => .lt
  | 3 => .ge
  | 4 => .gt
  | _ => .le
def pm_rb (b : Nat) : Instr := match b with
  | 0 => .iadd
  | 1 => .isub
  | 2 => .imul
  | 3 => .iand
  | 4 => .ior
  | 5 => .ixor
  | 6 => .ishl
  | 7 => .ishr
  | 8 => .irem
  | _ => .idiv
def pm_rl (b : Nat) : Instr := match b with
  | 0 => .ladd
  | 1 => .lmul
  | 2 => .land
  | _ => .lor
def pm_real (i : pm_Ins) : Instr := match i with
  | (f, r, _, z, a, b, c) => match f with
    | 0 => (match r with
      | 0 => .iconst z
      | 1 => .bipush z
      | 2 => .sipush z
      | 3 => .ldc c
      | _ => .ldc_w c)
    | 1 => (match r with
      | 0 => (match a with
        | 0 => .lconst 0
        | _ => .lconst 1)
      | _ => .ldc2_w c)
    | 2 => (match r with
      | 0 => .iload_n (pm_f4 a)
      | _ => .iload a)
    | 3 => (match r with
      | 0 => .lload_n (pm_f4 a)
      | _ => .lload a)
    | 4 => (match r with
      | 0 => .aload_n (pm_f4 a)
      | _ => .aload a)
    | 5 => (match r with
      | 0 => .istore_n (pm_f4 a)
      | _ => .istore a)
    | 6 => (match r with
      | 0 => .lstore_n (pm_f4 a)
      | _ => .lstore a)
    | 7 => (match r with
      | 0 => .astore_n (pm_f4 a)
      | _ => .astore a)
    | 8 => .iinc a z
    | 9 => pm_rb b
    | 10 => .ineg
    | 11 => pm_rl b
    | 12 => (match b with
      | 0 => .lshl
      | _ => .lshr)
    | 13 => .lcmp
    | 14 => .i2l
    | 15 => .l2i
    | 16 => .i2b
    | 17 => .dup
    | 18 => .pop
    | 19 => .dup2
    | 20 => .goto z
    | 21 => .ifCond (pm_cc b) z
    | 22 => .if_icmp (pm_cc b) z
    | 23 => (match pm_SW[a]? with
      | some (d, lo, hi, offs, _) => .tableswitch d lo hi offs.toArray
      | none => .pop)
    | 24 => .getfield c
    | 25 => .getfield c
    | 26 => .getfield c
    | 27 => .putfield c
    | 28 => .putfield c
    | 29 => .putfield c
    | 30 => .getstatic c
    | 31 => .arraylength
    | 32 => .iaload
    | 33 => .baload
    | 34 => .laload
    | 35 => .aaload
    | 36 => .iastore
    | 37 => .bastore
    | 38 => .lastore
    | 39 => .ireturn
    | 40 => .lreturn
    | 41 => .areturn
    | 42 => .return_
    | 43 => .invokevirtual c
    | 44 => .invokestatic c
    | 45 => .invokestatic c
    | 46 => .invokestatic c
    | _ => .pop
/-- the length that a row must have -/
def pm_len (f r : Nat) : Nat := match f with
  | 0 => (match r with
    | 0 => 1
    | 1 => 2
    | 2 => 3
    | 3 => 2
    | _ => 3)
  | 1 => if r = 0 then 1 else 3
  | 2 => if r = 0 then 1 else 2
  | 3 => if r = 0 then 1 else 2
  | 4 => if r = 0 then 1 else 2
  | 5 => if r = 0 then 1 else 2
  | 6 => if r = 0 then 1 else 2
  | 7 => if r = 0 then 1 else 2
  | 8 => 3
  | 20 => 3
  | 21 => 3
  | 22 => 3
  | 24 => 3
  | 25 => 3
  | 26 => 3
  | 27 => 3
  | 28 => 3
  | 29 => 3
  | 30 => 3
  | 43 => 3
  | 44 => 3
  | 45 => 3
  | 46 => 3
  | _ => 1
/-- the calls of arraycopy: class, index -/
def pm_AC : List (Nat × Nat) := [(1, 30), (5, 34)]
/-- what is asked of a row beside its decoding; the method's row, the instruction's place and itself -/
def pm_side (me : pm_Me) (pc : Nat) (i : pm_Ins) : Bool := match me, i with
  | (_, _, ml, rt, _, ow, _), (f, r, len, z, a, b, c) => (f == 23 || len == pm_len f r) && (match f with
    | 0 => (match r with
      | 0 => decide (-1 ≤ z ∧ z ≤ 5)
      | 1 => decide ((Int8.ofInt z).toInt32 = Int32.ofInt z)
      | 2 => decide ((Int16.ofInt z).toInt32 = Int32.ofInt z)
      | _ => pm_CI.elem (ow, c, z))
    | 1 => (match r with
      | 0 => (a == 0 && decide (z = 0)) || (a == 1 && decide (z = 1))
      | _ => pm_CL.elem (ow, c, z))
    | 2 => r != 0 || a < 4
    | 3 => r != 0 || a < 4
    | 4 => r != 0 || a < 4
    | 5 => (r != 0 || a < 4) && decide (a < ml)
    | 6 => (r != 0 || a < 4) && decide (a + 1 < ml)
    | 7 => (r != 0 || a < 4) && decide (a < ml)
    | 8 => decide (a < ml)
    | 9 => decide (b < 10)
    | 11 => decide (b < 4)
    | 12 => decide (b < 2)
    | 20 => decide ((pc : Int) + z = (a : Int))
    | 21 => decide ((pc : Int) + z = (a : Int)) && decide (b < 6)
    | 22 => decide ((pc : Int) + z = (a : Int)) && decide (b < 6)
    | 23 => decide (a < 4)
    | 24 => if r = 0 then pm_FL.elem (ow, c, b, a) && decide (b < 12) && decide (a < pm_N b) else ow == 3 && (c == 29 && (b == 9 && a == 6))
    | 25 => r == 0 && pm_FL.elem (ow, c, b, a) && decide (b < 12) && decide (a < pm_N b)
    | 26 => r == 0 && pm_FL.elem (ow, c, b, a) && decide (b < 12) && decide (a < pm_N b)
    | 27 => r == 0 && pm_FL.elem (ow, c, b, a) && decide (b < 12) && decide (a < pm_N b) && !(pm_T b a).2.2.2
    | 28 => r == 0 && pm_FL.elem (ow, c, b, a) && decide (b < 12) && decide (a < pm_N b) && !(pm_T b a).2.2.2
    | 29 => r == 0 && pm_FL.elem (ow, c, b, a) && decide (b < 12) && decide (a < pm_N b) && !(pm_T b a).2.2.2
    | 30 => if r = 0 then ow == 10 && c == 255 else ow == 3 && c == 34
    | 39 => if r = 0 then decide (rt = some .int) else r == 1 && decide (rt = some .boolean)
    | 40 => decide (rt = some .long)
    | 41 => (match rt with
      | some (.object _) => true
      | _ => false)
    | 42 => decide (rt = none)
    | 43 => pm_ML.elem (ow, c, a) && decide ((pm_M[a]?).map (fun m => m.2.2.2.2.2.2) = some false)
    | 44 => pm_ML.elem (ow, c, a) && decide ((pm_M[a]?).map (fun m => m.2.2.2.2.2.2) = some true)
    | 45 => pm_AC.elem (ow, c)
    | 46 => pm_MA.elem (ow, c, b) && decide (b < 3)
    | _ => decide (f < 46))
def pm_okB (me : pm_Me) (q : Nat × pm_Ins) : Bool := decide (decode me.2.1 q.1 = .ok (pm_real q.2, q.2.2.2.1)) && pm_side me q.1 q.2
