/-! the abstract machine -/
abbrev XV : Type := Nat × Int
abbrev Mem : Type := Int → Int → Int
abbrev Shp : Type := (Int → Int) × (Int → Int) × Int
abbrev Cnt : Type := Nat × Nat
abbrev Cfg : Type := Nat × List XV × List XV × Mem × Shp × Cnt
abbrev Res : Type := Option XV × Mem × Shp
abbrev Ent : Type := ClassFile.Instr × Nat × Nat × Int × Nat × List Nat × List (Int × Nat)
def s32 (x : Int) : Int := (Int32.ofInt x).toInt
def s64 (x : Int) : Int := (Int64.ofInt x).toInt
def up2 (V : Mem) (a k v : Int) : Mem := fun b j => if b = a ∧ j = k then v else V b j
def upo (V : Mem) (a : Int) (f : Int → Int) : Mem := fun b => if b = a then f else V b
def upk (f : Int → Int) (a v : Int) : Int → Int := fun b => if b = a then v else f b
abbrev Call1 : Type := Nat × Nat × List XV × Mem × Shp × (Int → Mem → Shp → Cfg)
abbrev Call0 : Type := Nat × List XV × Mem × Shp × (Mem → Shp → Cfg)
abbrev Act : Type := Cfg ⊕ ((Prop × Cfg) ⊕ ((Prop × Cfg × Cfg) ⊕ (Res ⊕ ((Prop × Res) ⊕ (Call1 ⊕ ((Prop × Call1) ⊕ (Call0 ⊕ ((Prop × Call0) ⊕ ((Int × List (Int × Nat) × Nat × (Nat → Cfg)) ⊕ ((Prop × Mem × (Mem → Cfg)) ⊕ ((Prop × Mem × Shp × (Mem → Shp → Cfg)) ⊕ ((Prop × Prop × Cfg × Cfg) ⊕ Unit))))))))))))
def aN (c : Cfg) : Act := .inl c
def aR (p : Prop) (c : Cfg) : Act := .inr (.inl (p, c))
def aB (p : Prop) (c1 c2 : Cfg) : Act := .inr (.inr (.inl (p, c1, c2)))
def aX (r : Res) : Act := .inr (.inr (.inr (.inl r)))
def aXp (p : Prop) (r : Res) : Act := .inr (.inr (.inr (.inr (.inl (p, r)))))
def aC (q : Call1) : Act := .inr (.inr (.inr (.inr (.inr (.inl q)))))
def aCp (p : Prop) (q : Call1) : Act := .inr (.inr (.inr (.inr (.inr (.inr (.inl (p, q)))))))
def aU (q : Call0) : Act := .inr (.inr (.inr (.inr (.inr (.inr (.inr (.inl q)))))))
def aUp (p : Prop) (q : Call0) : Act := .inr (.inr (.inr (.inr (.inr (.inr (.inr (.inr (.inl (p, q)))))))))
def aS (q : Int × List (Int × Nat) × Nat × (Nat → Cfg)) : Act := .inr (.inr (.inr (.inr (.inr (.inr (.inr (.inr (.inr (.inl q)))))))))
def aW (q : Prop × Mem × (Mem → Cfg)) : Act := .inr (.inr (.inr (.inr (.inr (.inr (.inr (.inr (.inr (.inr (.inl q))))))))))
def aA (q : Prop × Mem × Shp × (Mem → Shp → Cfg)) : Act := .inr (.inr (.inr (.inr (.inr (.inr (.inr (.inr (.inr (.inr (.inr (.inl q)))))))))))
def aQ (q : Prop × Prop × Cfg × Cfg) : Act := .inr (.inr (.inr (.inr (.inr (.inr (.inr (.inr (.inr (.inr (.inr (.inr (.inl q))))))))))))
def aZ : Act := .inr (.inr (.inr (.inr (.inr (.inr (.inr (.inr (.inr (.inr (.inr (.inr (.inr ()))))))))))))
def gosw (x : Int) (nx : Nat → Prop) (d : Nat) : List (Int × Nat) → Prop
  | [] => nx d
  | (k, t) :: r => (x = k → nx t) ∧ (¬ x = k → gosw x nx d r)
def swt (x : Int) (d : Nat) : List (Int × Nat) → Nat
  | [] => d
  | (k, t) :: r => if x = k then t else swt x d r
/-- what an act asks: of the next place, of the end, of a call -/
def go (C1 : Call1 → (Cfg → Prop) → Prop) (C0 : Call0 → (Cfg → Prop) → Prop) (next : Cfg → Prop) (ret : Res → Prop) : Act → Prop
  | .inl c => next c
  | .inr (.inl (p, c)) => p ∧ next c
  | .inr (.inr (.inl (p, c1, c2))) => (p → next c1) ∧ (¬ p → next c2)
  | .inr (.inr (.inr (.inl r))) => ret r
  | .inr (.inr (.inr (.inr (.inl (p, r))))) => p ∧ ret r
  | .inr (.inr (.inr (.inr (.inr (.inl q))))) => C1 q next
  | .inr (.inr (.inr (.inr (.inr (.inr (.inl (p, q))))))) => p ∧ C1 q next
  | .inr (.inr (.inr (.inr (.inr (.inr (.inr (.inl q))))))) => C0 q next
  | .inr (.inr (.inr (.inr (.inr (.inr (.inr (.inr (.inl (p, q))))))))) => p ∧ C0 q next
  | .inr (.inr (.inr (.inr (.inr (.inr (.inr (.inr (.inr (.inl (x, cs, d, k)))))))))) => gosw x (fun t => next (k t)) d cs
  | .inr (.inr (.inr (.inr (.inr (.inr (.inr (.inr (.inr (.inr (.inl (p, V, k))))))))))) => p ∧ ∀ V1 : Mem, V1 = V → next (k V1)
  | .inr (.inr (.inr (.inr (.inr (.inr (.inr (.inr (.inr (.inr (.inr (.inl (p, V, S, k)))))))))))) => p ∧ ∀ (V1 : Mem) (S1 : Shp), V1 = V → S1 = S → next (k V1 S1)
  | .inr (.inr (.inr (.inr (.inr (.inr (.inr (.inr (.inr (.inr (.inr (.inr (.inl (q, p, c1, c2))))))))))))) => q ∧ (p → next c1) ∧ (¬ p → next c2)
  | .inr (.inr (.inr (.inr (.inr (.inr (.inr (.inr (.inr (.inr (.inr (.inr (.inr _)))))))))))) => False
def lgt (ls : List XV) (i : Nat) : XV := ls.getD i (9, 0)
def kl : XV → XV := fun v => match v with
  | (1, _) => (9, 0)
  | v => v
def lput : List XV → Nat → XV → List XV
  | [], _, _ => []
  | _ :: r, 0, v => v :: r
  | u :: r, 1, v => kl u :: (match r with
    | [] => []
    | _ :: q => v :: q)
  | u :: r, i + 2, v => u :: lput r (i + 1) v
def lforget (ls : List XV) : List Nat → List XV
  | [] => ls
  | i :: r => lforget (ls.set i (9, 0)) r
def cats : List XV → Nat
  | [] => 0
  | (1, _) :: r => cats r + 2
  | _ :: r => cats r + 1
def i32 (x : Int) : Int32 := Int32.ofInt x
def i64 (x : Int) : Int64 := Int64.ofInt x

def iandI (x y : Int) : Int := (i32 x &&& i32 y).toInt
def iorI (x y : Int) : Int := (i32 x ||| i32 y).toInt
def ixorI (x y : Int) : Int := (i32 x ^^^ i32 y).toInt
def ishlI (x y : Int) : Int := (i32 x <<< (i32 y &&& 31)).toInt
def ishrI (x y : Int) : Int := (i32 x >>> (i32 y &&& 31)).toInt
def iushrI (x y : Int) : Int := (((i32 x).toUInt32 >>> ((i32 y).toUInt32 &&& Int32.toUInt32 31)).toInt32).toInt
def landI (x y : Int) : Int := (i64 x &&& i64 y).toInt
def lorI (x y : Int) : Int := (i64 x ||| i64 y).toInt
def lxorI (x y : Int) : Int := (i64 x ^^^ i64 y).toInt
def lshlI (x y : Int) : Int := (i64 x <<< ((i32 y).toInt64 &&& 63)).toInt
def lshrI (x y : Int) : Int := (i64 x >>> ((i32 y).toInt64 &&& 63)).toInt
def lushrI (x y : Int) : Int := ((i64 x).toUInt64 >>> ((i32 y).toInt64.toUInt64 &&& Int64.toUInt64 63)).toInt64.toInt
def lcmpI (x y : Int) : Int := if s64 x < s64 y then -1 else if s64 x = s64 y then 0 else 1
def cpyI (V : Mem) (a i b j n : Int) : Mem := fun c k => if c = b ∧ j ≤ k ∧ k < j + n then V a (i + (k - j)) else V c k
/-- the fields' defaults of a class -/
def ftg (ty : FieldType) : Nat := match ty with
  | .long => 1
  | .object _ => 2
  | .array _ => 2
  | .boolean => 3
  | _ => 0
def tyCs : List (Nat → FieldType) := [tyX0, tyX1, tyX2, tyX3, tyX4, tyX5, tyX6, tyX7, tyX8, tyX9, tyX10, tyX11, tyX12]
def tyC (ci : Nat) : Nat → FieldType := tyCs.getD ci (fun _ => .int)
def dfl (ci : Nat) (k : Int) : Int := if ftg (tyC ci k.toNat) = 2 then -1 else 0
def nfs : List Nat := [5, 7, 3, 5, 4, 13, 4, 3, 9, 7, 3, 13, 73]
def nfC (ci : Nat) : Nat := nfs.getD ci 0
def mcc (y : Nat) : Cnt := bif Nat.beq y 0 then (1, 20) else bif Nat.beq y 8 then (3, 21) else bif Nat.beq y 14 then (1, 240) else bif Nat.beq y 19 then (1, 64) else bif Nat.beq y 27 then (1, 20) else bif Nat.beq y 32 then (5, 677) else bif Nat.beq y 45 then (1, 60) else bif Nat.beq y 52 then (6, 141) else bif Nat.beq y 64 then (5, 131) else bif Nat.beq y 68 then (4, 124) else bif Nat.beq y 78 then (1, 100) else bif Nat.beq y 96 then (36, 1451) else bif Nat.beq y 97 then (2, 24) else bif Nat.beq y 102 then (6, 690) else bif Nat.beq y 113 then (5, 131) else bif Nat.beq y 148 then (45, 16210) else (0, 0)
def exI (mc : Cnt) (cost : Cnt) (nx a n t : Nat) (ls st : List XV) (V : Mem) (S : Shp) (g : Cnt) : Act :=
  bif Nat.ble n st.length && Nat.ble (cats (st.drop n)) 8 then
    bif Nat.beq cost.1 0 && Nat.beq cost.2 0 then
      match t with
      | 9 => aU (a, (st.take n).reverse, V, S, fun V1 S1 => (nx, ls, st.drop n, V1, S1, g))
      | t => aC (t, a, (st.take n).reverse, V, S, fun x V1 S1 => (nx, ls, (t, x) :: st.drop n, V1, S1, g))
    else
      match t with
      | 9 => aUp (g.1 + cost.1 ≤ mc.1 ∧ g.2 + cost.2 ≤ mc.2) (a, (st.take n).reverse, V, S, fun V1 S1 => (nx, ls, st.drop n, V1, S1, (g.1 + cost.1, g.2 + cost.2)))
      | t => aCp (g.1 + cost.1 ≤ mc.1 ∧ g.2 + cost.2 ≤ mc.2) (t, a, (st.take n).reverse, V, S, fun x V1 S1 => (nx, ls, (t, x) :: st.drop n, V1, S1, (g.1 + cost.1, g.2 + cost.2)))
  else aZ
def ex (mc : Cnt) : Ent → Cfg → Act := fun (i, nx, a, b, t, dead, sw) (_, ls0, st, V, S, g) =>
  match i with
  | .iconst n => aN (nx, lforget ls0 dead, (0, n) :: st, V, S, g)
  | .bipush _ => aN (nx, lforget ls0 dead, (0, b) :: st, V, S, g)
  | .sipush _ => aN (nx, lforget ls0 dead, (0, b) :: st, V, S, g)
  | .lconst n => aN (nx, lforget ls0 dead, (1, (n.val : Int)) :: st, V, S, g)
  | .ldc _ => aN (nx, lforget ls0 dead, (t, b) :: st, V, S, g)
  | .ldc_w _ => aN (nx, lforget ls0 dead, (0, b) :: st, V, S, g)
  | .ldc2_w _ => aN (nx, lforget ls0 dead, (1, b) :: st, V, S, g)
  | .aconst_null => aN (nx, lforget ls0 dead, (2, -1) :: st, V, S, g)
  | .iload n => match lgt (lforget ls0 dead) n with
    | (0, x) => aN (nx, lforget ls0 dead, (0, x) :: st, V, S, g)
    | _ => aZ
  | .iload_n n => match lgt (lforget ls0 dead) n.val with
    | (0, x) => aN (nx, lforget ls0 dead, (0, x) :: st, V, S, g)
    | _ => aZ
  | .lload n => match lgt (lforget ls0 dead) n with
    | (1, x) => aN (nx, lforget ls0 dead, (1, x) :: st, V, S, g)
    | _ => aZ
  | .lload_n n => match lgt (lforget ls0 dead) n.val with
    | (1, x) => aN (nx, lforget ls0 dead, (1, x) :: st, V, S, g)
    | _ => aZ
  | .aload n => match lgt (lforget ls0 dead) n with
    | (2, x) => aN (nx, lforget ls0 dead, (2, x) :: st, V, S, g)
    | _ => aZ
  | .aload_n n => match lgt (lforget ls0 dead) n.val with
    | (2, x) => aN (nx, lforget ls0 dead, (2, x) :: st, V, S, g)
    | _ => aZ
  | .istore n => match st with
    | (0, x) :: r => aN (nx, lput (lforget ls0 dead) n (0, x), r, V, S, g)
    | _ => aZ
  | .istore_n n => match st with
    | (0, x) :: r => aN (nx, lput (lforget ls0 dead) n.val (0, x), r, V, S, g)
    | _ => aZ
  | .lstore n => match st with
    | (1, x) :: r => aN (nx, (lput (lforget ls0 dead) n (1, x)).set (n + 1) (9, 0), r, V, S, g)
    | _ => aZ
  | .lstore_n n => match st with
    | (1, x) :: r => aN (nx, (lput (lforget ls0 dead) n.val (1, x)).set (n.val + 1) (9, 0), r, V, S, g)
    | _ => aZ
  | .astore n => match st with
    | (2, x) :: r => aN (nx, lput (lforget ls0 dead) n (2, x), r, V, S, g)
    | _ => aZ
  | .astore_n n => match st with
    | (2, x) :: r => aN (nx, lput (lforget ls0 dead) n.val (2, x), r, V, S, g)
    | _ => aZ
  | .iinc n k => match lgt (lforget ls0 dead) n with
    | (0, x) => aN (nx, lput (lforget ls0 dead) n (0, x + k), st, V, S, g)
    | _ => aZ
  | .iadd => match st with
    | (0, y) :: (0, x) :: r => aN (nx, lforget ls0 dead, (0, x + y) :: r, V, S, g)
    | _ => aZ
  | .isub => match st with
    | (0, y) :: (0, x) :: r => aN (nx, lforget ls0 dead, (0, x - y) :: r, V, S, g)
    | _ => aZ
  | .imul => match st with
    | (0, y) :: (0, x) :: r => aN (nx, lforget ls0 dead, (0, x * y) :: r, V, S, g)
    | _ => aZ
  | .idiv => match st with
    | (0, y) :: (0, x) :: r => aR (s32 y ≠ 0) (nx, lforget ls0 dead, (0, (s32 x).tdiv (s32 y)) :: r, V, S, g)
    | _ => aZ
  | .irem => match st with
    | (0, y) :: (0, x) :: r => aR (s32 y ≠ 0) (nx, lforget ls0 dead, (0, (s32 x).tmod (s32 y)) :: r, V, S, g)
    | _ => aZ
  | .ineg => match st with
    | (0, x) :: r => aN (nx, lforget ls0 dead, (0, -x) :: r, V, S, g)
    | _ => aZ
  | .iand => match st with
    | (0, y) :: (0, x) :: r => aN (nx, lforget ls0 dead, (0, iandI x y) :: r, V, S, g)
    | _ => aZ
  | .ior => match st with
    | (0, y) :: (0, x) :: r => aN (nx, lforget ls0 dead, (0, iorI x y) :: r, V, S, g)
    | _ => aZ
  | .ixor => match st with
    | (0, y) :: (0, x) :: r => aN (nx, lforget ls0 dead, (0, ixorI x y) :: r, V, S, g)
    | _ => aZ
  | .ishl => match st with
    | (0, y) :: (0, x) :: r => aN (nx, lforget ls0 dead, (0, ishlI x y) :: r, V, S, g)
    | _ => aZ
  | .ishr => match st with
    | (0, y) :: (0, x) :: r => aN (nx, lforget ls0 dead, (0, ishrI x y) :: r, V, S, g)
    | _ => aZ
  | .iushr => match st with
    | (0, y) :: (0, x) :: r => aN (nx, lforget ls0 dead, (0, iushrI x y) :: r, V, S, g)
    | _ => aZ
  | .ladd => match st with
    | (1, y) :: (1, x) :: r => aN (nx, lforget ls0 dead, (1, x + y) :: r, V, S, g)
    | _ => aZ
  | .lsub => match st with
    | (1, y) :: (1, x) :: r => aN (nx, lforget ls0 dead, (1, x - y) :: r, V, S, g)
    | _ => aZ
  | .lmul => match st with
    | (1, y) :: (1, x) :: r => aN (nx, lforget ls0 dead, (1, x * y) :: r, V, S, g)
    | _ => aZ
  | .ldiv => match st with
    | (1, y) :: (1, x) :: r => aR (s64 y ≠ 0) (nx, lforget ls0 dead, (1, (s64 x).tdiv (s64 y)) :: r, V, S, g)
    | _ => aZ
  | .lrem => match st with
    | (1, y) :: (1, x) :: r => aR (s64 y ≠ 0) (nx, lforget ls0 dead, (1, (s64 x).tmod (s64 y)) :: r, V, S, g)
    | _ => aZ
  | .land => match st with
    | (1, y) :: (1, x) :: r => aN (nx, lforget ls0 dead, (1, landI x y) :: r, V, S, g)
    | _ => aZ
  | .lor => match st with
    | (1, y) :: (1, x) :: r => aN (nx, lforget ls0 dead, (1, lorI x y) :: r, V, S, g)
    | _ => aZ
  | .lxor => match st with
    | (1, y) :: (1, x) :: r => aN (nx, lforget ls0 dead, (1, lxorI x y) :: r, V, S, g)
    | _ => aZ
  | .lshl => match st with
    | (0, y) :: (1, x) :: r => aN (nx, lforget ls0 dead, (1, lshlI x y) :: r, V, S, g)
    | _ => aZ
  | .lshr => match st with
    | (0, y) :: (1, x) :: r => aN (nx, lforget ls0 dead, (1, lshrI x y) :: r, V, S, g)
    | _ => aZ
  | .lushr => match st with
    | (0, y) :: (1, x) :: r => aN (nx, lforget ls0 dead, (1, lushrI x y) :: r, V, S, g)
    | _ => aZ
  | .lcmp => match st with
    | (1, y) :: (1, x) :: r => aN (nx, lforget ls0 dead, (0, lcmpI x y) :: r, V, S, g)
    | _ => aZ
  | .i2l => match st with
    | (0, x) :: r => aN (nx, lforget ls0 dead, (1, s32 x) :: r, V, S, g)
    | _ => aZ
  | .l2i => match st with
    | (1, x) :: r => aN (nx, lforget ls0 dead, (0, x) :: r, V, S, g)
    | _ => aZ
  | .i2b => match st with
    | (0, x) :: r => aN (nx, lforget ls0 dead, (0, x.bmod 256) :: r, V, S, g)
    | _ => aZ
  | .i2s => match st with
    | (0, x) :: r => aN (nx, lforget ls0 dead, (0, x.bmod 65536) :: r, V, S, g)
    | _ => aZ
  | .dup => match st with
    | (t0, x) :: r => bif Nat.beq t0 1 then aZ else aN (nx, lforget ls0 dead, (t0, x) :: (t0, x) :: r, V, S, g)
    | _ => aZ
  | .pop => match st with
    | (t0, _) :: r => bif Nat.beq t0 1 then aZ else aN (nx, lforget ls0 dead, r, V, S, g)
    | _ => aZ
  | .dup2 => match st with
    | (1, x) :: r => aN (nx, lforget ls0 dead, (1, x) :: (1, x) :: r, V, S, g)
    | (t1, y) :: (t0, x) :: r => bif Nat.beq t0 1 then aZ else aN (nx, lforget ls0 dead, (t1, y) :: (t0, x) :: (t1, y) :: (t0, x) :: r, V, S, g)
    | _ => aZ
  | .dup_x1 => match st with
    | (t1, y) :: (t0, x) :: r => bif Nat.beq t0 1 then aZ else bif Nat.beq t1 1 then aZ else aN (nx, lforget ls0 dead, (t1, y) :: (t0, x) :: (t1, y) :: r, V, S, g)
    | _ => aZ
  | .ifCond cd _ => match st with
    | (0, x) :: r => match cd with
      | .eq => aB (s32 x = 0) (a, lforget ls0 dead, r, V, S, g) (nx, lforget ls0 dead, r, V, S, g)
      | .ne => aB (s32 x = 0) (nx, lforget ls0 dead, r, V, S, g) (a, lforget ls0 dead, r, V, S, g)
      | .lt => aB (s32 x < 0) (a, lforget ls0 dead, r, V, S, g) (nx, lforget ls0 dead, r, V, S, g)
      | .ge => aB (s32 x < 0) (nx, lforget ls0 dead, r, V, S, g) (a, lforget ls0 dead, r, V, S, g)
      | .gt => aB (0 < s32 x) (a, lforget ls0 dead, r, V, S, g) (nx, lforget ls0 dead, r, V, S, g)
      | .le => aB (0 < s32 x) (nx, lforget ls0 dead, r, V, S, g) (a, lforget ls0 dead, r, V, S, g)
    | _ => aZ
  | .if_icmp cd _ => match st with
    | (0, y) :: (0, x) :: r => match cd with
      | .eq => aB (s32 x = s32 y) (a, lforget ls0 dead, r, V, S, g) (nx, lforget ls0 dead, r, V, S, g)
      | .ne => aB (s32 x = s32 y) (nx, lforget ls0 dead, r, V, S, g) (a, lforget ls0 dead, r, V, S, g)
      | .lt => aB (s32 x < s32 y) (a, lforget ls0 dead, r, V, S, g) (nx, lforget ls0 dead, r, V, S, g)
      | .ge => aB (s32 x < s32 y) (nx, lforget ls0 dead, r, V, S, g) (a, lforget ls0 dead, r, V, S, g)
      | .gt => aB (s32 y < s32 x) (a, lforget ls0 dead, r, V, S, g) (nx, lforget ls0 dead, r, V, S, g)
      | .le => aB (s32 y < s32 x) (nx, lforget ls0 dead, r, V, S, g) (a, lforget ls0 dead, r, V, S, g)
    | _ => aZ
  | .if_acmp cd _ => match st with
    | (2, y) :: (2, x) :: r => match cd with
      | .eq => bif Nat.beq t 2 then aQ (-1 ≤ x ∧ -1 ≤ y, x = y, (a, lforget ls0 dead, r, V, S, g), (nx, lforget ls0 dead, r, V, S, g)) else aZ
      | .ne => bif Nat.beq t 2 then aQ (-1 ≤ x ∧ -1 ≤ y, x = y, (nx, lforget ls0 dead, r, V, S, g), (a, lforget ls0 dead, r, V, S, g)) else aZ
    | _ => aZ
  | .ifnull _ => match st with
    | (2, x) :: r => aB (x = -1) (a, lforget ls0 dead, r, V, S, g) (nx, lforget ls0 dead, r, V, S, g)
    | _ => aZ
  | .ifnonnull _ => match st with
    | (2, x) :: r => aB (x = -1) (nx, lforget ls0 dead, r, V, S, g) (a, lforget ls0 dead, r, V, S, g)
    | _ => aZ
  | .goto _ => aN (a, lforget ls0 dead, st, V, S, g)
  | .tableswitch _ _ _ _ => match st with
    | (0, x) :: r => aS (s32 x, sw, a, (fun p => (p, lforget ls0 dead, r, V, S, g)))
    | _ => aZ
  | .lookupswitch _ _ => match st with
    | (0, x) :: r => aS (s32 x, sw, a, (fun p => (p, lforget ls0 dead, r, V, S, g)))
    | _ => aZ
  | .getfield _ => match st with
    | (2, o) :: r => match t with
      | 1 => aR (S.1 o = (a : Int)) (nx, lforget ls0 dead, (1, V o b) :: r, V, S, g)
      | 2 => aR (S.1 o = (a : Int)) (nx, lforget ls0 dead, (2, V o b) :: r, V, S, g)
      | _ => aR (S.1 o = (a : Int)) (nx, lforget ls0 dead, (0, V o b) :: r, V, S, g)
    | _ => aZ
  | .putfield _ => match t with
    | 0 => match st with
      | (0, x) :: (2, o) :: r => aW ((S.1 o = (a : Int)), up2 V o b x, fun V1 => (nx, lforget ls0 dead, r, V1, S, g))
      | _ => aZ
    | 1 => match st with
      | (1, x) :: (2, o) :: r => aW ((S.1 o = (a : Int)), up2 V o b x, fun V1 => (nx, lforget ls0 dead, r, V1, S, g))
      | _ => aZ
    | 2 => match st with
      | (2, x) :: (2, o) :: r => aW ((S.1 o = (a : Int)), up2 V o b x, fun V1 => (nx, lforget ls0 dead, r, V1, S, g))
      | _ => aZ
    | _ => match st with
      | (0, x) :: (2, o) :: r => aW ((S.1 o = (a : Int) ∧ (s32 x = 0 ∨ s32 x = 1)), up2 V o b x, fun V1 => (nx, lforget ls0 dead, r, V1, S, g))
      | _ => aZ
  | .getstatic _ => aN (nx, lforget ls0 dead, (2, b) :: st, V, S, g)
  | .arraylength => match st with
    | (2, o) :: r => aR (100 ≤ S.1 o ∧ S.1 o < 123) (nx, lforget ls0 dead, (0, S.2.1 o) :: r, V, S, g)
    | _ => aZ
  | .iaload => match st with
    | (0, j) :: (2, o) :: r => aR ((S.1 o = 100 ∨ S.1 o = 104) ∧ 0 ≤ s32 j ∧ s32 j < S.2.1 o) (nx, lforget ls0 dead, (0, V o (s32 j)) :: r, V, S, g)
    | _ => aZ
  | .baload => match st with
    | (0, j) :: (2, o) :: r => aR ((S.1 o = 101 ∨ S.1 o = 102) ∧ 0 ≤ s32 j ∧ s32 j < S.2.1 o) (nx, lforget ls0 dead, (0, V o (s32 j)) :: r, V, S, g)
    | _ => aZ
  | .laload => match st with
    | (0, j) :: (2, o) :: r => aR (S.1 o = 103 ∧ 0 ≤ s32 j ∧ s32 j < S.2.1 o) (nx, lforget ls0 dead, (1, V o (s32 j)) :: r, V, S, g)
    | _ => aZ
  | .aaload => match st with
    | (0, j) :: (2, o) :: r => aR (S.1 o = 110 + (a : Int) ∧ 0 ≤ s32 j ∧ s32 j < S.2.1 o) (nx, lforget ls0 dead, (2, V o (s32 j)) :: r, V, S, g)
    | _ => aZ
  | .iastore => match st with
    | (0, x) :: (0, j) :: (2, o) :: r => aW ((S.1 o = 100 ∧ 0 ≤ s32 j ∧ s32 j < S.2.1 o), up2 V o (s32 j) x, fun V1 => (nx, lforget ls0 dead, r, V1, S, g))
    | _ => aZ
  | .bastore => match st with
    | (0, x) :: (0, j) :: (2, o) :: r => match t with
      | 0 => aW ((S.1 o = 101 ∧ 0 ≤ s32 j ∧ s32 j < S.2.1 o), up2 V o (s32 j) (x.bmod 256), fun V1 => (nx, lforget ls0 dead, r, V1, S, g))
      | _ => aW (((S.1 o = 102 ∧ 0 ≤ s32 j ∧ s32 j < S.2.1 o) ∧ (s32 x = 0 ∨ s32 x = 1)), up2 V o (s32 j) x, fun V1 => (nx, lforget ls0 dead, r, V1, S, g))
    | _ => aZ
  | .lastore => match st with
    | (1, x) :: (0, j) :: (2, o) :: r => aW ((S.1 o = 103 ∧ 0 ≤ s32 j ∧ s32 j < S.2.1 o), up2 V o (s32 j) x, fun V1 => (nx, lforget ls0 dead, r, V1, S, g))
    | _ => aZ
  | .aastore => match st with
    | (2, x) :: (0, j) :: (2, o) :: r => aW (((S.1 o = 110 + (a : Int) ∧ 0 ≤ s32 j ∧ s32 j < S.2.1 o) ∧ (x = -1 ∨ S.1 x = (a : Int))), up2 V o (s32 j) x, fun V1 => (nx, lforget ls0 dead, r, V1, S, g))
    | _ => aZ
  | .newarray _ => match st with
    | (0, n) :: r => aA (((0 ≤ s32 n ∧ s32 n ≤ 100000) ∧ g.1 + 1 ≤ mc.1 ∧ g.2 + (s32 n).toNat ≤ mc.2), upo V S.2.2 (fun _ => 0), (upk S.1 S.2.2 (a : Int), upk S.2.1 S.2.2 (s32 n), S.2.2 + 1), fun V1 S1 => (nx, lforget ls0 dead, (2, S.2.2) :: r, V1, S1, (g.1 + 1, g.2 + (s32 n).toNat)))
    | _ => aZ
  | .anewarray _ => match st with
    | (0, n) :: r => aA (((0 ≤ s32 n ∧ s32 n ≤ 100000) ∧ g.1 + 1 ≤ mc.1 ∧ g.2 + (s32 n).toNat ≤ mc.2), upo V S.2.2 (fun _ => -1), (upk S.1 S.2.2 (110 + (a : Int)), upk S.2.1 S.2.2 (s32 n), S.2.2 + 1), fun V1 S1 => (nx, lforget ls0 dead, (2, S.2.2) :: r, V1, S1, (g.1 + 1, g.2 + (s32 n).toNat)))
    | _ => aZ
  | .new _ => aA ((g.1 + 1 ≤ mc.1 ∧ g.2 + nfC a ≤ mc.2), upo V S.2.2 (dfl a), (upk S.1 S.2.2 (a : Int), S.2.1, S.2.2 + 1), fun V1 S1 => (nx, lforget ls0 dead, (2, S.2.2) :: st, V1, S1, (g.1 + 1, g.2 + nfC a)))
  | .invokevirtual _ => exI mc (mcc a) nx a b.toNat t (lforget ls0 dead) st V S g
  | .invokestatic _ => match a with
    | 9998 => match st with
      | (0, n) :: (0, j) :: (2, o) :: (0, i) :: (2, q) :: r => bif Nat.ble (cats r) 8 then aW (((S.1 q = 103 ∧ S.1 o = 103) ∧ (0 ≤ s32 i ∧ 0 ≤ s32 j ∧ 0 ≤ s32 n) ∧ (s32 i + s32 n ≤ S.2.1 q ∧ s32 j + s32 n ≤ S.2.1 o)), cpyI V q (s32 i) o (s32 j) (s32 n), fun V1 => (nx, lforget ls0 dead, r, V1, S, g)) else aZ
      | _ => aZ
    | a => exI mc (mcc a) nx a b.toNat t (lforget ls0 dead) st V S g
  | .invokespecial _ => match a with
    | 9999 => match st with
      | (2, o) :: r => bif Nat.ble (cats r) 8 then aR (0 ≤ S.1 o ∧ S.1 o < 13) (nx, lforget ls0 dead, r, V, S, g) else aZ
      | _ => aZ
    | a => exI mc (mcc a) nx a b.toNat t (lforget ls0 dead) st V S g
  | .ireturn => match st with
    | [(0, x)] => match t with
      | 3 => aXp (s32 x = 0 ∨ s32 x = 1) (some (0, x), V, S)
      | _ => aX (some (0, x), V, S)
    | _ => aZ
  | .lreturn => match st with
    | [(1, x)] => aX (some (1, x), V, S)
    | _ => aZ
  | .areturn => match st with
    | [(2, x)] => aX (some (2, x), V, S)
    | _ => aZ
  | .return_ => match st with
    | [] => aX (none, V, S)
    | _ => aZ
  | _ => aZ
/-! runs -/
abbrev Cod : Type := Nat → Ent
abbrev Rel : Type := Nat → List XV → Mem → Shp → Res → Prop
def c1R (R : Rel) (next : Cfg → Prop) : Call1 → Prop := fun (t, y, As, V, S, k) => ∃ (x : Int) (V1 : Mem) (S1 : Shp), R y As V S (some (t, x), V1, S1) ∧ next (k x V1 S1)
def c0R (R : Rel) (next : Cfg → Prop) : Call0 → Prop := fun (y, As, V, S, k) => ∃ (V1 : Mem) (S1 : Shp), R y As V S (none, V1, S1) ∧ next (k V1 S1)
def dEnt : Ent := (.athrow, 0, 0, 0, 0, [], [])
def fch (cd : Cod) (pc : Nat) : Ent := bif Nat.blt pc 1700 then cd pc else dEnt
def Ex (R : Rel) (mc : Cnt) (cd : Cod) : Nat → Cfg → Res → Prop
  | 0, _, _ => False
  | n + 1, c, w => go (fun q nx => c1R R nx q) (fun q nx => c0R R nx q) (fun c1 => Ex R mc cd n c1 w) (fun r => r = w) (ex mc (fch cd c.1) c)
/-- a method: code, costs, how many locals, its class (99: none), whether it is called on an object of that class -/
abbrev MInf : Type := Cod × Cnt × Nat × Nat × Bool
def entL (As : List XV) (n : Nat) : List XV := (As.flatMap (fun v => bif Nat.beq v.1 1 then [v, (9, 0)] else [v])) ++ List.replicate (n - cats As) (9, 0)
def rcv (i : MInf) (As : List XV) (S : Shp) : Prop := Nat.ble (cats As) i.2.2.1 = true ∧ match i.2.2.2.2, As with
  | false, _ => True
  | true, (2, o) :: _ => S.1 o = (i.2.2.2.1 : Int)
  | true, _ => False
def extR : Rel := fun y As V S w => match y with
  | 9001 => ∃ o, As = [(2, o)] ∧ S.1 o = 130 ∧ w = (some (0, S.2.1 o), V, S)
  | 9002 => ∃ o i, As = [(2, o), (0, i)] ∧ S.1 o = 130 ∧ 0 ≤ s32 i ∧ s32 i < S.2.1 o ∧ w = (some (0, V o (s32 i)), V, S)
  | _ => False
def Run (M : Nat → MInf) : Nat → Rel
  | 0 => fun _ _ _ _ _ => False
  | d + 1 => fun y As V S w => extR y As V S w ∨ (rcv (M y) As S ∧ ∃ n, Ex (Run M d) (M y).2.1 (M y).1 n (0, entL As (M y).2.2.1, [], V, S, (0, 0)) w)
def Cv (M : Nat → MInf) (d t y : Nat) (As : List XV) (V : Mem) (S : Shp) (Q : Int → Mem → Shp → Prop) : Prop := ∃ (x : Int) (V1 : Mem) (S1 : Shp), Run M d y As V S (some (t, x), V1, S1) ∧ Q x V1 S1
def Cu (M : Nat → MInf) (d y : Nat) (As : List XV) (V : Mem) (S : Shp) (Q : Mem → Shp → Prop) : Prop := ∃ (V1 : Mem) (S1 : Shp), Run M d y As V S (none, V1, S1) ∧ Q V1 S1
def Ok (M : Nat → MInf) (d : Nat) (mc : Cnt) (cd : Cod) (Q : Res → Prop) (c : Cfg) : Prop := ∃ n w, Ex (Run M d) mc cd n c w ∧ Q w
def gq (M : Nat → MInf) (d : Nat) (next : Cfg → Prop) (Q : Res → Prop) : Act → Prop :=
  go (fun (t, y, As, V, S, k) nx => Cv M d t y As V S (fun x V1 S1 => nx (k x V1 S1))) (fun (y, As, V, S, k) nx => Cu M d y As V S (fun V1 S1 => nx (k V1 S1))) next Q
def XS (M : Nat → MInf) (d : Nat) (mc : Cnt) (cd : Cod) (Q : Res → Prop) (stp : List Nat) : Nat → Cfg → Prop
  | 0, c => Ok M d mc cd Q c
  | n + 1, c => bif stp.elem c.1 then Ok M d mc cd Q c else gq M d (XS M d mc cd Q stp n) Q (ex mc (fch cd c.1) c)
theorem gosw_swt (x : Int) (nx : Nat → Prop) (d : Nat) : ∀ cs, gosw x nx d cs ↔ nx (swt x d cs)
  | [] => Iff.rfl
  | (k, t) :: r => by
    unfold gosw swt
    by_cases h : x = k
    · simp [h]
    · simp [h, gosw_swt x nx d r]
theorem ok_iff (M : Nat → MInf) (d : Nat) (mc : Cnt) (cd : Cod) (Q : Res → Prop) (c : Cfg) : Ok M d mc cd Q c ↔ gq M d (Ok M d mc cd Q) Q (ex mc (fch cd c.1) c) := by
  generalize hA : ex mc (fch cd c.1) c = A
  have h1 : Ok M d mc cd Q c ↔ ∃ n w, go (fun q nx => c1R (Run M d) nx q) (fun q nx => c0R (Run M d) nx q) (fun c1 => Ex (Run M d) mc cd n c1 w) (fun r => r = w) A ∧ Q w := by
    constructor
    · rintro ⟨n, w, h, hQ⟩
      cases n with
      | zero => exact h.elim
      | succ n => exact ⟨n, w, by rw [← hA]; exact h, hQ⟩
    · rintro ⟨n, w, h, hQ⟩
      exact ⟨n + 1, w, by rw [← hA] at h; exact h, hQ⟩
  rw [h1]
  clear h1 hA
  rcases A with c1 | ⟨p, c1⟩ | ⟨p, c1, c2⟩ | r | ⟨p, r⟩ | ⟨t, y, As, V, S, k⟩ | ⟨p, t, y, As, V, S, k⟩ | ⟨y, As, V, S, k⟩ | ⟨p, y, As, V, S, k⟩ | ⟨x, cs, d', k⟩ | ⟨p, V9, k⟩ | ⟨p, V9, S9, k⟩ | ⟨q, p, c1, c2⟩ | _
  · exact Iff.rfl
  · constructor
    · rintro ⟨n, w, ⟨hp, h⟩, hQ⟩
      exact ⟨hp, n, w, h, hQ⟩
    · rintro ⟨hp, n, w, h, hQ⟩
      exact ⟨n, w, ⟨hp, h⟩, hQ⟩
  · constructor
    · rintro ⟨n, w, ⟨h, h2⟩, hQ⟩
      exact ⟨fun hp => ⟨n, w, h hp, hQ⟩, fun hp => ⟨n, w, h2 hp, hQ⟩⟩
    · rintro ⟨h, h2⟩
      by_cases hp : p
      · obtain ⟨n, w, h, hQ⟩ := h hp
        exact ⟨n, w, ⟨fun _ => h, fun z => absurd hp z⟩, hQ⟩
      · obtain ⟨n, w, h, hQ⟩ := h2 hp
        exact ⟨n, w, ⟨fun z => absurd z hp, fun _ => h⟩, hQ⟩
  · constructor
    · rintro ⟨n, w, h, hQ⟩
      have h : r = w := h
      subst h; exact hQ
    · intro h
      exact ⟨0, r, rfl, h⟩
  · constructor
    · rintro ⟨n, w, ⟨hp, h⟩, hQ⟩
      have h : r = w := h
      subst h; exact ⟨hp, hQ⟩
    · rintro ⟨hp, h⟩
      exact ⟨0, r, ⟨hp, rfl⟩, h⟩
  · constructor
    · rintro ⟨n, w, ⟨x, V1, S1, hR, h⟩, hQ⟩
      exact ⟨x, V1, S1, hR, n, w, h, hQ⟩
    · rintro ⟨x, V1, S1, hR, n, w, h, hQ⟩
      exact ⟨n, w, ⟨x, V1, S1, hR, h⟩, hQ⟩
  · constructor
    · rintro ⟨n, w, ⟨hp, x, V1, S1, hR, h⟩, hQ⟩
      exact ⟨hp, x, V1, S1, hR, n, w, h, hQ⟩
    · rintro ⟨hp, x, V1, S1, hR, n, w, h, hQ⟩
      exact ⟨n, w, ⟨hp, x, V1, S1, hR, h⟩, hQ⟩
  · constructor
    · rintro ⟨n, w, ⟨V1, S1, hR, h⟩, hQ⟩
      exact ⟨V1, S1, hR, n, w, h, hQ⟩
    · rintro ⟨V1, S1, hR, n, w, h, hQ⟩
      exact ⟨n, w, ⟨V1, S1, hR, h⟩, hQ⟩
  · constructor
    · rintro ⟨n, w, ⟨hp, V1, S1, hR, h⟩, hQ⟩
      exact ⟨hp, V1, S1, hR, n, w, h, hQ⟩
    · rintro ⟨hp, V1, S1, hR, n, w, h, hQ⟩
      exact ⟨n, w, ⟨hp, V1, S1, hR, h⟩, hQ⟩
  · constructor
    · rintro ⟨n, w, h, hQ⟩
      have h := (gosw_swt x _ d' cs).mp h
      exact (gosw_swt x _ d' cs).mpr ⟨n, w, h, hQ⟩
    · intro h
      obtain ⟨n, w, h, hQ⟩ := (gosw_swt x _ d' cs).mp h
      exact ⟨n, w, (gosw_swt x _ d' cs).mpr h, hQ⟩
  · constructor
    · rintro ⟨n, w, ⟨hp, h⟩, hQ⟩
      exact ⟨hp, fun V1 e => ⟨n, w, h V1 e, hQ⟩⟩
    · rintro ⟨hp, h⟩
      obtain ⟨n, w, h, hQ⟩ := h _ rfl
      exact ⟨n, w, ⟨hp, fun V1 e => e ▸ h⟩, hQ⟩
  · constructor
    · rintro ⟨n, w, ⟨hp, h⟩, hQ⟩
      exact ⟨hp, fun V1 S1 e e2 => ⟨n, w, h V1 S1 e e2, hQ⟩⟩
    · rintro ⟨hp, h⟩
      obtain ⟨n, w, h, hQ⟩ := h _ _ rfl rfl
      exact ⟨n, w, ⟨hp, fun V1 S1 e e2 => by subst e; subst e2; exact h⟩, hQ⟩
  · constructor
    · rintro ⟨n, w, ⟨hq, h, h2⟩, hQ⟩
      exact ⟨hq, fun hp => ⟨n, w, h hp, hQ⟩, fun hp => ⟨n, w, h2 hp, hQ⟩⟩
    · rintro ⟨hq, h, h2⟩
      by_cases hp : p
      · obtain ⟨n, w, h, hQ⟩ := h hp
        exact ⟨n, w, ⟨hq, fun _ => h, fun z => absurd hp z⟩, hQ⟩
      · obtain ⟨n, w, h, hQ⟩ := h2 hp
        exact ⟨n, w, ⟨hq, fun z => absurd z hp, fun _ => h⟩, hQ⟩
  · constructor
    · rintro ⟨n, w, h, hQ⟩
      exact h.elim
    · intro h
      exact h.elim
theorem gq_iff {M : Nat → MInf} {d : Nat} {nx nx' : Cfg → Prop} (h : ∀ c, nx c ↔ nx' c) (Q : Res → Prop) (A : Act) : gq M d nx Q A ↔ gq M d nx' Q A := by
  have e : nx = nx' := funext fun c => propext (h c)
  rw [e]
theorem xs_iff (M : Nat → MInf) (d : Nat) (mc : Cnt) (cd : Cod) (Q : Res → Prop) (stp : List Nat) : ∀ n c, XS M d mc cd Q stp n c ↔ Ok M d mc cd Q c
  | 0, c => Iff.rfl
  | n + 1, c => by
    unfold XS
    cases stp.elem c.1
    · exact (gq_iff (xs_iff M d mc cd Q stp n) Q _).trans (ok_iff M d mc cd Q c).symm
    · exact Iff.rfl
theorem ok_blk (M : Nat → MInf) (d : Nat) (mc : Cnt) (cd : Cod) (Q : Res → Prop) (c : Cfg) (stp : List Nat) (n : Nat) : Ok M d mc cd Q c ↔ gq M d (XS M d mc cd Q stp n) Q (ex mc (fch cd c.1) c) :=
  (ok_iff M d mc cd Q c).trans (gq_iff (fun c => (xs_iff M d mc cd Q stp n c).symm) Q _)
theorem run_mono (M : Nat → MInf) : ∀ d y As V S w, Run M d y As V S w → Run M (d + 1) y As V S w := by
  intro d
  induction d with
  | zero => intro y As V S w h; exact h.elim
  | succ d ih =>
    intro y As V S w h
    rcases h with h | ⟨hr, n, h⟩
    · exact Or.inl h
    · refine Or.inr ⟨hr, n, ?_⟩
      generalize (0, entL As (M y).2.2.1, ([] : List XV), V, S, ((0, 0) : Cnt)) = c at h ⊢
      induction n generalizing c with
      | zero => exact h
      | succ n ihn =>
        unfold Ex at h ⊢
        generalize ex (M y).2.1 (fch (M y).1 c.1) c = A at h ⊢
        rcases A with c1 | ⟨p, c1⟩ | ⟨p, c1, c2⟩ | r | ⟨p, r⟩ | ⟨t, y, As, V, S, k⟩ | ⟨p, t, y, As, V, S, k⟩ | ⟨y, As, V, S, k⟩ | ⟨p, y, As, V, S, k⟩ | ⟨x, cs, d', k⟩ | ⟨p, V9, k⟩ | ⟨p, V9, S9, k⟩ | ⟨q, p, c1, c2⟩ | _
        · exact ihn _ h
        · exact ⟨h.1, ihn _ h.2⟩
        · exact ⟨fun hp => ihn _ (h.1 hp), fun hp => ihn _ (h.2 hp)⟩
        · exact h
        · exact h
        · obtain ⟨x, V1, S1, hR, h⟩ := h
          exact ⟨x, V1, S1, ih _ _ _ _ _ hR, ihn _ h⟩
        · obtain ⟨hp, x, V1, S1, hR, h⟩ := h
          exact ⟨hp, x, V1, S1, ih _ _ _ _ _ hR, ihn _ h⟩
        · obtain ⟨V1, S1, hR, h⟩ := h
          exact ⟨V1, S1, ih _ _ _ _ _ hR, ihn _ h⟩
        · obtain ⟨hp, V1, S1, hR, h⟩ := h
          exact ⟨hp, V1, S1, ih _ _ _ _ _ hR, ihn _ h⟩
        · exact (gosw_swt x _ d' cs).mpr (ihn _ ((gosw_swt x _ d' cs).mp h))
        · exact ⟨h.1, fun V1 e => ihn _ (h.2 V1 e)⟩
        · exact ⟨h.1, fun V1 S1 e e2 => ihn _ (h.2 V1 S1 e e2)⟩
        · exact ⟨h.1, fun hp => ihn _ (h.2.1 hp), fun hp => ihn _ (h.2.2 hp)⟩
        · exact h
