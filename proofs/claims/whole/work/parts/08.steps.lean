/-! ===== one instruction, as what must hold ahead of it ===== -/
abbrev BI : Type := Instr × Nat × List Nat × Int
abbrev r3 (a : Int) : Prop := -2147483648 ≤ a ∧ a ≤ 2147483647
abbrev r6 (a : Int) : Prop := -9223372036854775808 ≤ a ∧ a ≤ 9223372036854775807
def tg (pc : Nat) (off : Int) : Nat := ((pc : Int) + off).toNat
def pI (st : List AV) (k : Int → List AV → Prop) : Prop := match st with
  | .inl a :: r => k a r
  | _ => False
def pL (st : List AV) (k : Int → List AV → Prop) : Prop := match st with
  | .inr (.inl a) :: r => k a r
  | _ => False
def pR (st : List AV) (k : Nat → List AV → Prop) : Prop := match st with
  | .inr (.inr a) :: r => k a r
  | _ => False
def pII (st : List AV) (k : Int → Int → List AV → Prop) : Prop := match st with
  | .inl b :: .inl a :: r => k a b r
  | _ => False
def pLL (st : List AV) (k : Int → Int → List AV → Prop) : Prop := match st with
  | .inr (.inl b) :: .inr (.inl a) :: r => k a b r
  | _ => False
def pIR (st : List AV) (k : Int → Nat → List AV → Prop) : Prop := match st with
  | .inl i :: .inr (.inr p) :: r => k i p r
  | _ => False
def gI (ls : LV) (i : Nat) (k : Int → Prop) : Prop := match ls[i]? with
  | some (some (.inl x)) => k x
  | _ => False
def gL (ls : LV) (i : Nat) (k : Int → Prop) : Prop := match ls[i]? with
  | some (some (.inr (.inl x))) => k x
  | _ => False
def gR (ls : LV) (i : Nat) (k : Nat → Prop) : Prop := match ls[i]? with
  | some (some (.inr (.inr x))) => k x
  | _ => False
def isLong : Option (Option AV) → Bool
  | some (some (.inr (.inl _))) => true
  | _ => false
def st1 (ls : LV) (i : Nat) (v : AV) (k : LV → Prop) : Prop := match Nat.ble (i + 1) ls.length && !(match i with
    | 0 => false
    | j + 1 => isLong ls[j]?) with
  | true => k (ls.set i (some v))
  | false => False
def st2 (ls : LV) (i : Nat) (v : AV) (k : LV → Prop) : Prop := match Nat.ble (i + 2) ls.length && !(match i with
    | 0 => false
    | j + 1 => isLong ls[j]?) with
  | true => k ((ls.set i (some v)).set (i + 1) none)
  | false => False
def brP (c : Jvm.ClassFile.Cond) (a b : Int) (jt jf : Prop) : Prop := match c with
  | .eq => (a = b → jt) ∧ (a ≠ b → jf)
  | .ne => (a ≠ b → jt) ∧ (a = b → jf)
  | .lt => (a < b → jt) ∧ (b ≤ a → jf)
  | .ge => (b ≤ a → jt) ∧ (a < b → jf)
  | .gt => (b < a → jt) ∧ (a ≤ b → jf)
  | .le => (a ≤ b → jt) ∧ (b < a → jf)
def tbP (x : Int) (j : Nat → Prop) : Int → List Nat → Prop
  | _, [] => True
  | lo, o :: r => (x = lo → j o) ∧ tbP x j (lo + 1) r
def lkP (x : Int) (j : Nat → Prop) (d : Nat) : List (Int × Int) → List Nat → Prop
  | (a, _) :: r, t :: ts => (x = a → j t) ∧ (x ≠ a → lkP x j d r ts)
  | _, _ => j d
def gF (p ci k : Nat) (σ : SG) (f : AV → Prop) : Prop := match SH[p]? with
  | some (.inr (c, ks)) => (match Nat.beq c ci with
    | true => (match ks[k]? with
      | some (0, _) => f (.inl (σ p (k : Int)))
      | some (1, _) => f (.inr (.inl (σ p (k : Int))))
      | some (2, q) => f (.inr (.inr q))
      | some (3, _) => f (.inr (.inr (σ p (k : Int)).toNat))
      | some (4, _) => f (.inl (σ p (k : Int)))
      | _ => False)
    | false => False)
  | _ => False
def pF (p ci k : Nat) (σ : SG) (v : AV) (f : SG → Prop) : Prop := match SH[p]? with
  | some (.inr (c, ks)) => (match Nat.beq c ci with
    | true => (match ks[k]?, v with
      | some (0, _), .inl x => f (up σ p (k : Int) x)
      | some (1, _), .inr (.inl x) => f (up σ p (k : Int) x)
      | some (3, _), .inr (.inr q) => f (up σ p (k : Int) (q : Int))
      | some (4, _), .inl x => (x = 0 ∨ x = 1) ∧ f (up σ p (k : Int) x)
      | _, _ => False)
    | false => False)
  | _ => False
def aN (p ty : Nat) (f : Nat → Prop) : Prop := match SH[p]? with
  | some (.inl (t, n)) => (match Nat.beq t ty with
    | true => f n
    | false => False)
  | _ => False
def cat1 : AV → Bool
  | .inr (.inl _) => false
  | _ => true
def cats : List AV → Nat
  | [] => 0
  | .inr (.inl _) :: r => 2 + cats r
  | _ :: r => 1 + cats r
def rtS (r : Option AV) (rest : List AV) : List AV := match r with
  | some v => v :: rest
  | none => rest
def clP (d M n ml : Nat) (st : List AV) (σ : SG) (f : List AV → SG → Prop) : Prop :=
  match Nat.ble (cats (st.drop n)) 8 && Nat.ble (((st.take n).reverse).flatMap slt).length ml && Nat.beq (st.take n).length n with
  | true => 0 < d ∧ AW (d - 1) M 0 (ent (st.take n).reverse ml) [] σ (fun r σ => f (rtS r (st.drop n)) σ)
  | false => False
def isObj (v : Option AV) (ci : Nat) : Bool := match v with
  | some (.inr (.inr p)) => (match SH[p]? with
    | some (.inr (c, _)) => Nat.beq c ci
    | _ => false)
  | _ => false
def acP (d : Nat) (st : List AV) (σ : SG) (f : List AV → SG → Prop) : Prop := match st with
  | .inl n :: .inl dp :: .inr (.inr q1) :: .inl sp :: .inr (.inr q0) :: r => (match Nat.ble (cats r) 8 with
    | true => aN q0 0 fun n0 => aN q1 0 fun n1 => 0 < d ∧ (0 ≤ sp ∧ 0 ≤ dp ∧ 0 ≤ n ∧ sp + n ≤ n0 ∧ dp + n ≤ n1) ∧ f r (cpy σ q0 q1 sp dp n)
    | false => False)
  | _ => False
/-- a comparison of longs goes with the branch behind it: the branch's condition stands in the hints -/
def cOf (k : Nat) : Jvm.ClassFile.Cond := match k with
  | 0 => .eq
  | 1 => .ne
  | 2 => .lt
  | 3 => .ge
  | 4 => .gt
  | _ => .le
abbrev bi (i : Instr) (n : Nat) (hs : List Nat) (k : Int) : BI := (i, n, hs, k)
def wps (d : Nat) (i : Instr) (hs : List Nat) (kc : Int) (pc : Nat) (ls : LV) (st : List AV) (σ : SG) (Q : Option AV → SG → Prop) (J : Nat → LV → List AV → SG → Prop) (F : LV → List AV → SG → Prop) : Prop :=
  match i with
  | .iconst x => F ls (.inl x :: st) σ
  | .bipush x => F ls (.inl x :: st) σ
  | .sipush x => F ls (.inl x :: st) σ
  | .lconst x => F ls (.inr (.inl ((x : Nat) : Int)) :: st) σ
  | .ldc _ => (match hs with
    | [q] => F ls (.inr (.inr (1000 + q)) :: st) σ
    | _ => F ls (.inl kc :: st) σ)
  | .ldc_w _ => F ls (.inl kc :: st) σ
  | .ldc2_w _ => F ls (.inr (.inl kc) :: st) σ
  | .iload k => gI ls k fun x => F ls (.inl x :: st) σ
  | .iload_n k => gI ls k fun x => F ls (.inl x :: st) σ
  | .lload k => gL ls k fun x => F ls (.inr (.inl x) :: st) σ
  | .lload_n k => gL ls k fun x => F ls (.inr (.inl x) :: st) σ
  | .aload k => gR ls k fun x => F ls (.inr (.inr x) :: st) σ
  | .aload_n k => gR ls k fun x => F ls (.inr (.inr x) :: st) σ
  | .istore k => pI st fun x r => st1 ls k (.inl x) fun ls => F ls r σ
  | .istore_n k => pI st fun x r => st1 ls k (.inl x) fun ls => F ls r σ
  | .lstore k => pL st fun x r => st2 ls k (.inr (.inl x)) fun ls => F ls r σ
  | .lstore_n k => pL st fun x r => st2 ls k (.inr (.inl x)) fun ls => F ls r σ
  | .astore k => pR st fun x r => st1 ls k (.inr (.inr x)) fun ls => F ls r σ
  | .astore_n k => pR st fun x r => st1 ls k (.inr (.inr x)) fun ls => F ls r σ
  | .iinc k x => gI ls k fun y => st1 ls k (.inl (y + x)) fun ls => F ls st σ
  | .iadd => pII st fun a b r => F ls (.inl (a + b) :: r) σ
  | .isub => pII st fun a b r => F ls (.inl (a - b) :: r) σ
  | .imul => pII st fun a b r => F ls (.inl (a * b) :: r) σ
  | .iand => pII st fun a b r => F ls (.inl (band a b) :: r) σ
  | .ior => pII st fun a b r => F ls (.inl (bor a b) :: r) σ
  | .ixor => pII st fun a b r => F ls (.inl (bxor a b) :: r) σ
  | .idiv => pII st fun a b r => (r3 a ∧ r3 b ∧ b ≠ 0) ∧ F ls (.inl (a.tdiv b) :: r) σ
  | .irem => pII st fun a b r => (r3 a ∧ r3 b ∧ b ≠ 0) ∧ F ls (.inl (a.tmod b) :: r) σ
  | .ineg => pI st fun a r => F ls (.inl (-a) :: r) σ
  | .ishl => pII st fun a b r => (0 ≤ b ∧ b < 32) ∧ F ls (.inl (a * 2 ^ b.toNat) :: r) σ
  | .ishr => pII st fun a b r => (0 ≤ b ∧ b < 32 ∧ r3 a) ∧ F ls (.inl (a / 2 ^ b.toNat) :: r) σ
  | .iushr => pII st fun a b r => (0 ≤ b ∧ b < 32) ∧ F ls (.inl ((un a / 2 ^ b.toNat : Nat) : Int) :: r) σ
  | .ladd => pLL st fun a b r => F ls (.inr (.inl (a + b)) :: r) σ
  | .lsub => pLL st fun a b r => F ls (.inr (.inl (a - b)) :: r) σ
  | .lmul => pLL st fun a b r => F ls (.inr (.inl (a * b)) :: r) σ
  | .ldiv => pLL st fun a b r => (r6 a ∧ r6 b ∧ b ≠ 0) ∧ F ls (.inr (.inl (a.tdiv b)) :: r) σ
  | .lrem => pLL st fun a b r => (r6 a ∧ r6 b ∧ b ≠ 0) ∧ F ls (.inr (.inl (a.tmod b)) :: r) σ
  | .i2l => pI st fun a r => r3 a ∧ F ls (.inr (.inl a) :: r) σ
  | .l2i => pL st fun a r => F ls (.inl a :: r) σ
  | .dup => (match st with
    | v :: r => (match cat1 v with
      | true => F ls (v :: v :: r) σ
      | false => False)
    | _ => False)
  | .pop => (match st with
    | v :: r => (match cat1 v with
      | true => F ls r σ
      | false => False)
    | _ => False)
  | .dup2 => (match st with
    | v :: w :: r => (match cat1 v && cat1 w with
      | true => F ls (v :: w :: v :: w :: r) σ
      | false => False)
    | _ => False)
  | .if_icmp c _ => (match hs with
    | [t] => pII st fun a b r => (r3 a ∧ r3 b) ∧ brP c a b (J t ls r σ) (F ls r σ)
    | _ => False)
  | .ifCond c _ => (match hs with
    | [t] => pI st fun a r => r3 a ∧ brP c a 0 (J t ls r σ) (F ls r σ)
    | _ => False)
  | .goto _ => (match hs with
    | [t] => J t ls st σ
    | _ => False)
  | .lcmp => (match hs with
    | [c, t] => pLL st fun a b r => (r6 a ∧ r6 b) ∧ brP (cOf c) a b (J t ls r σ) (F ls r σ)
    | _ => False)
  | .tableswitch _ lo hi _ => (match hs with
    | t :: ts => pI st fun a r => r3 a ∧ tbP a (fun o => J o ls r σ) lo ts ∧ ((a < lo ∨ hi < a) → J t ls r σ)
    | _ => False)
  | .lookupswitch _ ps => (match hs with
    | t :: ts => pI st fun a r => r3 a ∧ lkP a (fun o => J o ls r σ) t ps.toList ts
    | _ => False)
  | .getfield _ => (match hs with
    | [ci, k] => pR st fun p r => gF p ci k σ fun v => F ls (v :: r) σ
    | _ => False)
  | .putfield _ => (match hs, st with
    | [ci, k], v :: .inr (.inr p) :: r => pF p ci k σ v fun σ => F ls r σ
    | _, _ => False)
  | .iaload => pIR st fun i p r => aN p 0 fun n => (0 ≤ i ∧ i < n) ∧ F ls (.inl (σ p i) :: r) σ
  | .laload => pIR st fun i p r => aN p 1 fun n => (0 ≤ i ∧ i < n) ∧ F ls (.inr (.inl (σ p i)) :: r) σ
  | .caload => pIR st fun i p r => aN p 2 fun n => (0 ≤ i ∧ i < n) ∧ F ls (.inl (σ p i) :: r) σ
  | .iastore => pI st fun x st => pIR st fun i p r => aN p 0 fun n => (0 ≤ i ∧ i < n) ∧ F ls r (up σ p i x)
  | .lastore => pL st fun x st => pIR st fun i p r => aN p 1 fun n => (0 ≤ i ∧ i < n) ∧ F ls r (up σ p i x)
  | .arraylength => pR st fun p r => (match SH[p]? with
    | some (.inl (_, n)) => F ls (.inl (n : Int) :: r) σ
    | _ => False)
  | .ireturn => (match st, hs with
    | [.inl v], [] => Q (some (.inl v)) σ
    | [.inl v], [1] => (v = 0 ∨ v = 1) ∧ Q (some (.inl v)) σ
    | _, _ => False)
  | .lreturn => (match st with
    | [.inr (.inl v)] => Q (some (.inr (.inl v))) σ
    | _ => False)
  | .return_ => (match st with
    | [] => Q none σ
    | _ => False)
  | .invokevirtual _ => (match hs with
    | [M, n, ml, ci] => (match isObj (st.take n).getLast? ci with
      | true => clP d M n ml st σ fun st σ => F ls st σ
      | false => False)
    | _ => False)
  | .invokestatic _ => (match hs with
    | [M, n, ml] => clP d M n ml st σ fun st σ => F ls st σ
    | [] => acP d st σ fun st σ => F ls st σ
    | [0] => pII st fun a b r => 0 < d ∧ (r3 a ∧ r3 b) ∧ Nat.ble (cats r) 8 = true ∧ F ls (.inl (if a < b then b else a) :: r) σ
    | [1] => pII st fun a b r => 0 < d ∧ (r3 a ∧ r3 b) ∧ Nat.ble (cats r) 8 = true ∧ F ls (.inl (if b < a then b else a) :: r) σ
    | [2] => pLL st fun a b r => 0 < d ∧ (r6 a ∧ r6 b) ∧ Nat.ble (cats r) 8 = true ∧ F ls (.inr (.inl (if b < a then a else b)) :: r) σ
    | [3] => pLL st fun a b r => 0 < d ∧ (r6 a ∧ r6 b) ∧ Nat.ble (cats r) 8 = true ∧ F ls (.inr (.inl (if b < a then b else a)) :: r) σ
    | _ => False)
  | _ => False
/-- a stretch of instructions -/
def wpl (d M : Nat) (Q : Option AV → SG → Prop) : List BI → Nat → LV → List AV → SG → Prop
  | [], pc, ls, st, σ => AW d M pc ls st σ Q
  | b :: bs, pc, ls, st, σ => wps d b.1 b.2.2.1 b.2.2.2 pc ls st σ Q (fun pc ls st σ => AW d M pc ls st σ Q) (fun ls st σ => wpl d M Q bs (pc + b.2.1) ls st σ)
