/-! THE PURE MACHINE: numbers are whole numbers (what the machine holds is their remainder), cells are numbered as they come, the cells' contents are functions. -/
abbrev PV : Type := Int ⊕ Int ⊕ Option Nat
abbrev pI (a : Int) : PV := .inl a
abbrev pL (a : Int) : PV := .inr (.inl a)
abbrev pR (i : Nat) : PV := .inr (.inr (some i))
/-- an instruction: itself, the place of the next, two numbers, a whole number -/
abbrev PI : Type := Instr × Nat × Nat × Nat × Int
/-- the cells' kinds and sizes; the references in them -/
abbrev SS : Type := List (Nat × Nat) × (Nat → Int → Option Nat)
abbrev ZM : Type := Nat → Int → Int
abbrev PQ : Type := Option PV → SS → ZM → ZM → Prop
abbrev PK : Type := Nat → List (Option PV) → List PV → SS → ZM → ZM → Nat → Nat → Prop
abbrev PC : Type := Nat → List PV → SS → ZM → ZM → PQ → Prop
abbrev PX : Type := Nat → Nat × (Int → Int)
def i3 (a : Int) : Int32 := Int32.ofInt a
def i6 (a : Int) : Int64 := Int64.ofInt a
def popI (st : List PV) (k : Int → List PV → Prop) : Prop := match st with | .inl a :: r => k a r | _ => False
def popV (st : List PV) (k : PV → List PV → Prop) : Prop := match st with | .inl a :: r => k (.inl a) r | .inr (.inr a) :: r => k (.inr (.inr a)) r | _ => False
def popL (st : List PV) (k : Int → List PV → Prop) : Prop := match st with | .inr (.inl a) :: r => k a r | _ => False
def popR (st : List PV) (k : Nat → List PV → Prop) : Prop := match st with | .inr (.inr (some a)) :: r => k a r | _ => False
def ldI (ls : List (Option PV)) (i : Nat) (k : Int → Prop) : Prop := match ls[i]? with | some (some (.inl a)) => k a | _ => False
def ldL (ls : List (Option PV)) (i : Nat) (k : Int → Prop) : Prop := match ls[i]? with | some (some (.inr (.inl a))) => k a | _ => False
def ldR (ls : List (Option PV)) (i : Nat) (k : Nat → Prop) : Prop := match ls[i]? with | some (some (.inr (.inr (some a)))) => k a | _ => False
/-- a long that lies ahead is gone when its second place is written -/
def clr (ls : List (Option PV)) (i : Nat) : List (Option PV) := match i with
  | 0 => ls
  | j + 1 => match ls[j]? with
    | some (some (.inr (.inl _))) => ls.set j none
    | _ => ls
def st1 (ls : List (Option PV)) (i : Nat) (v : PV) : List (Option PV) := (clr ls i).set i (some v)
def st2 (ls : List (Option PV)) (i : Nat) (v : PV) : List (Option PV) := ((clr ls i).set i (some v)).set (i + 1) none
def pcat (v : PV) : Nat := match v with | .inr (.inl _) => 2 | _ => 1
def pcats (st : List PV) : Nat := (st.map pcat).sum
/-- one number written -/
def zput (z : ZM) (c : Nat) (k x : Int) : ZM := fun c' k' => if c' = c ∧ k' = k then x else z c' k'
def zrow (z : ZM) (c : Nat) (f : Int → Int) : ZM := fun c' k' => if c' = c then f k' else z c' k'
def rput (z : Nat → Int → Option Nat) (c : Nat) (k : Int) (x : Option Nat) : Nat → Int → Option Nat := fun c' k' => if c' = c ∧ k' = k then x else z c' k'
def rrow (z : Nat → Int → Option Nat) (c : Nat) : Nat → Int → Option Nat := fun c' k' => if c' = c then none else z c' k'
/-- a stretch of one row over another -/
def cpI (f g : Int → Int) (sp dp n : Int) : Int → Int := fun k => if dp ≤ k ∧ k < dp + n then f (sp + (k - dp)) else g k
def xbase : Nat := 1000000
def cmpI (c : ClassFile.Cond) (x y : Int) : Prop := match c with
  | .eq => i3 x = i3 y
  | .ne => ¬ i3 x = i3 y
  | .lt => i3 x < i3 y
  | .ge => i3 y ≤ i3 x
  | .gt => i3 y < i3 x
  | .le => i3 x ≤ i3 y
def cmpL (x y : Int) : Int := if i6 x < i6 y then -1 else if i6 x = i6 y then 0 else 1
def inI (a : Int) : Prop := -2147483648 ≤ a ∧ a ≤ 2147483647
def inL (a : Int) : Prop := -9223372036854775808 ≤ a ∧ a ≤ 9223372036854775807
def psw (swT : List (List Nat)) (id : Nat) (lo hi x : Int) : Option Nat := match swT[id]? with
  | none => none
  | some ts => if x < lo ∨ hi < x then ts[0]? else ts[(x - lo).toNat + 1]?
def plk : List (Int × Int) → List Nat → Int → Nat → Nat
  | (a, _) :: r, t :: ts, x, d => if x = a then t else plk r ts x d
  | _, _, _, d => d
def plook (swT : List (List Nat)) (id : Nat) (ps : List (Int × Int)) (x : Int) : Option Nat := match swT[id]? with
  | some (d :: ts) => some (plk ps ts x d)
  | _ => none
/-- what a field holds -/
def rdF (S : SS) (zI zL : ZM) (tag h : Nat) (k : Int) : PV := if tag = 1 then .inr (.inl (zL h k)) else if tag = 2 then .inr (.inr (S.2 h k)) else .inl (zI h k)
def elI (S : SS) (X : PX) (zI : ZM) (h : Nat) (i : Int) (k : Int → Prop) : Prop :=
  if h < xbase then (∃ n : Nat, S.1[h]? = some (12, n) ∧ 0 ≤ i ∧ i < n ∧ n ≤ 10000) ∧ k (zI h i) else (h - xbase < 4 ∧ (X (h - xbase)).1 ≤ 100000 ∧ 0 ≤ i ∧ i < (X (h - xbase)).1) ∧ k ((X (h - xbase)).2 i)
def inrow (S : SS) (kd h : Nat) (i : Int) : Prop := ∃ n : Nat, S.1[h]? = some (kd, n) ∧ 0 ≤ i ∧ i < n ∧ n ≤ 10000
def calld (MC MS : Nat → Nat) (call : PC) (Q : PQ) (nxt : PK) (f n : Nat) (nx : Nat) (ls : List (Option PV)) (st : List PV) (S : SS) (zI zL : ZM) (mc ms : Nat) : Prop :=
  n ≤ st.length ∧ pcats (st.drop n) ≤ 8 ∧ MC f ≤ mc ∧ MS f ≤ ms ∧
  call f (st.take n).reverse S zI zL (fun r S' zI' zL' => nxt nx ls (r.toList ++ st.drop n) S' zI' zL' (mc - MC f) (ms - MS f))
/-- the receiver is of the class that the method is of -/
def recv (RC : Nat → Nat) (f n : Nat) (st : List PV) (S : SS) : Prop := match st[n - 1]? with | some (.inr (.inr (some h))) => S.1[h]? = some (RC f, 0) ∧ h < xbase | _ => False
def recvA (n : Nat) (st : List PV) : Prop := match st[n - 1]? with | some (.inr (.inr (some _))) => True | _ => False
def acopy (S : SS) (zI zL : ZM) (src : Nat) (sp : Int) (dst : Nat) (dp n : Int) (k : ZM → ZM → Prop) : Prop :=
  ∃ kd n0 n1 : Nat, S.1[src]? = some (kd, n0) ∧ S.1[dst]? = some (kd, n1) ∧ src < xbase ∧ dst < xbase ∧ n0 ≤ 10000 ∧ n1 ≤ 10000 ∧ 0 ≤ sp ∧ 0 ≤ dp ∧ 0 ≤ n ∧ sp + n ≤ n0 ∧ dp + n ≤ n1 ∧
  ((kd = 12 ∧ k (zrow zI dst (cpI (zI src) (zI dst) sp dp n)) zL) ∨ (kd = 13 ∧ k zI (zrow zL dst (cpI (zL src) (zL dst) sp dp n))))
def acop (st : List PV) (S : SS) (zI zL : ZM) (k : List PV → ZM → ZM → Prop) : Prop :=
  popI st fun n r => popI r fun dp r => popR r fun dst r => popI r fun sp r => popR r fun src r => pcats r ≤ 8 ∧ acopy S zI zL src sp dst dp n (k r)
/-- one instruction -/
def stepP (swT : List (List Nat)) (MC MS RC NF : Nat → Nat) (X : PX) (call : PC) (Q : PQ) (nxt : PK) (ins : PI) (ls : List (Option PV)) (st : List PV) (S : SS) (zI zL : ZM) (mc ms : Nat) : Prop :=
  match ins with
  | (i, nx, a, b, c) => match i with
    | .iconst _ => nxt nx ls (pI c :: st) S zI zL mc ms
    | .bipush _ => nxt nx ls (pI c :: st) S zI zL mc ms
    | .sipush _ => nxt nx ls (pI c :: st) S zI zL mc ms
    | .ldc _ => nxt nx ls (pI c :: st) S zI zL mc ms
    | .ldc_w _ => nxt nx ls (pI c :: st) S zI zL mc ms
    | .lconst _ => nxt nx ls (pL c :: st) S zI zL mc ms
    | .ldc2_w _ => nxt nx ls (pL c :: st) S zI zL mc ms
    | .iload i => ldI ls i fun x => nxt nx ls (pI x :: st) S zI zL mc ms
    | .iload_n i => ldI ls i fun x => nxt nx ls (pI x :: st) S zI zL mc ms
    | .lload i => ldL ls i fun x => nxt nx ls (pL x :: st) S zI zL mc ms
    | .lload_n i => ldL ls i fun x => nxt nx ls (pL x :: st) S zI zL mc ms
    | .aload i => ldR ls i fun x => nxt nx ls (pR x :: st) S zI zL mc ms
    | .aload_n i => ldR ls i fun x => nxt nx ls (pR x :: st) S zI zL mc ms
    | .istore i => popI st fun x r => i < ls.length ∧ nxt nx (st1 ls i (pI x)) r S zI zL mc ms
    | .istore_n i => popI st fun x r => (i : Nat) < ls.length ∧ nxt nx (st1 ls i (pI x)) r S zI zL mc ms
    | .lstore i => popL st fun x r => i + 1 < ls.length ∧ nxt nx (st2 ls i (pL x)) r S zI zL mc ms
    | .lstore_n i => popL st fun x r => (i : Nat) + 1 < ls.length ∧ nxt nx (st2 ls i (pL x)) r S zI zL mc ms
    | .astore i => popR st fun x r => i < ls.length ∧ nxt nx (st1 ls i (pR x)) r S zI zL mc ms
    | .astore_n i => popR st fun x r => (i : Nat) < ls.length ∧ nxt nx (st1 ls i (pR x)) r S zI zL mc ms
    | .iinc i _ => ldI ls i fun x => i < ls.length ∧ nxt nx (st1 ls i (pI (x + c))) st S zI zL mc ms
    | .dup => popV st fun v r => nxt nx ls (v :: v :: r) S zI zL mc ms
    | .dup2 => popV st fun v r => popV r fun u r => nxt nx ls (v :: u :: v :: u :: r) S zI zL mc ms
    | .pop => popV st fun _ r => nxt nx ls r S zI zL mc ms
    | .iadd => popI st fun y r => popI r fun x r => nxt nx ls (pI (x + y) :: r) S zI zL mc ms
    | .isub => popI st fun y r => popI r fun x r => nxt nx ls (pI (x - y) :: r) S zI zL mc ms
    | .imul => popI st fun y r => popI r fun x r => nxt nx ls (pI (x * y) :: r) S zI zL mc ms
    | .idiv => popI st fun y r => popI r fun x r => (inI x ∧ inI y ∧ y ≠ 0) ∧ nxt nx ls (pI (x.tdiv y) :: r) S zI zL mc ms
    | .irem => popI st fun y r => popI r fun x r => (inI x ∧ inI y ∧ y ≠ 0) ∧ nxt nx ls (pI (x.tmod y) :: r) S zI zL mc ms
    | .ineg => popI st fun x r => nxt nx ls (pI (-x) :: r) S zI zL mc ms
    | .ixor => popI st fun y r => popI r fun x r => nxt nx ls (pI (i3 x ^^^ i3 y).toInt :: r) S zI zL mc ms
    | .iand => popI st fun y r => popI r fun x r => nxt nx ls (pI (i3 x &&& i3 y).toInt :: r) S zI zL mc ms
    | .ladd => popL st fun y r => popL r fun x r => nxt nx ls (pL (x + y) :: r) S zI zL mc ms
    | .lsub => popL st fun y r => popL r fun x r => nxt nx ls (pL (x - y) :: r) S zI zL mc ms
    | .lmul => popL st fun y r => popL r fun x r => nxt nx ls (pL (x * y) :: r) S zI zL mc ms
    | .ldiv => popL st fun y r => popL r fun x r => (inL x ∧ inL y ∧ y ≠ 0) ∧ nxt nx ls (pL (x.tdiv y) :: r) S zI zL mc ms
    | .lrem => popL st fun y r => popL r fun x r => (inL x ∧ inL y ∧ y ≠ 0) ∧ nxt nx ls (pL (x.tmod y) :: r) S zI zL mc ms
    | .lneg => popL st fun x r => nxt nx ls (pL (-x) :: r) S zI zL mc ms
    | .lor => popL st fun y r => popL r fun x r => nxt nx ls (pL (i6 x ||| i6 y).toInt :: r) S zI zL mc ms
    | .land => popL st fun y r => popL r fun x r => nxt nx ls (pL (i6 x &&& i6 y).toInt :: r) S zI zL mc ms
    | .lshl => popI st fun y r => popL r fun x r => nxt nx ls (pL (i6 x <<< ((i3 y).toInt64 &&& 63)).toInt :: r) S zI zL mc ms
    | .lcmp => popL st fun y r => popL r fun x r => nxt nx ls (pI (cmpL x y) :: r) S zI zL mc ms
    | .i2l => popI st fun x r => inI x ∧ nxt nx ls (pL x :: r) S zI zL mc ms
    | .l2i => popL st fun x r => nxt nx ls (pI x :: r) S zI zL mc ms
    | .i2b => popI st fun x r => nxt nx ls (pI ((i3 x).toInt8.toInt32).toInt :: r) S zI zL mc ms
    | .goto _ => nxt a ls st S zI zL mc ms
    | .ifCond q _ => popI st fun x r => (cmpI q x 0 → nxt a ls r S zI zL mc ms) ∧ (¬ cmpI q x 0 → nxt nx ls r S zI zL mc ms)
    | .if_icmp q _ => popI st fun y r => popI r fun x r => (cmpI q x y → nxt a ls r S zI zL mc ms) ∧ (¬ cmpI q x y → nxt nx ls r S zI zL mc ms)
    | .tableswitch _ lo hi _ => popI st fun x r => inI x ∧ ∃ t, psw swT a lo hi x = some t ∧ nxt t ls r S zI zL mc ms
    | .lookupswitch _ ps => popI st fun x r => inI x ∧ ∃ t, plook swT a ps.toList x = some t ∧ nxt t ls r S zI zL mc ms
    | .ireturn => popI st fun x r => r = [] ∧ mc = 0 ∧ (a = 1 → x = 0 ∨ x = 1) ∧ Q (some (pI x)) S zI zL
    | .lreturn => popL st fun x r => r = [] ∧ mc = 0 ∧ Q (some (pL x)) S zI zL
    | .areturn => popR st fun x r => r = [] ∧ mc = 0 ∧ Q (some (pR x)) S zI zL
    | .return_ => st = [] ∧ mc = 0 ∧ Q none S zI zL
    | .getfield _ => popR st fun h r => (S.1[h]? = some (a, 0) ∧ h < xbase) ∧ nxt nx ls (rdF S zI zL b h c :: r) S zI zL mc ms
    | .putfield _ => if b = 0 ∨ b = 10 then popI st fun x r => popR r fun h r => (S.1[h]? = some (a, 0) ∧ h < xbase) ∧ nxt nx ls r S (zput zI h c x) zL mc ms
        else if b = 1 ∨ b = 11 then popL st fun x r => popR r fun h r => (S.1[h]? = some (a, 0) ∧ h < xbase) ∧ nxt nx ls r S zI (zput zL h c x) mc ms
        else if b = 3 ∨ b = 13 then popI st fun x r => popR r fun h r => (S.1[h]? = some (a, 0) ∧ h < xbase) ∧ (x = 0 ∨ x = 1) ∧ nxt nx ls r S (zput zI h c x) zL mc ms
        else popR st fun x r => popR r fun h r => (S.1[h]? = some (a, 0) ∧ h < xbase) ∧ nxt nx ls r (S.1, rput S.2 h c (some x)) zI zL mc ms
    | .getstatic _ => nxt nx ls (pR (xbase + a) :: st) S zI zL mc ms
    | .iaload => popI st fun i r => popR r fun h r => elI S X zI h i fun x => nxt nx ls (pI x :: r) S zI zL mc ms
    | .baload => popI st fun i r => popR r fun h r => (inrow S 14 h i ∧ h < xbase) ∧ nxt nx ls (pI (zI h i) :: r) S zI zL mc ms
    | .laload => popI st fun i r => popR r fun h r => (inrow S 13 h i ∧ h < xbase) ∧ nxt nx ls (pL (zL h i) :: r) S zI zL mc ms
    | .aaload => popI st fun i r => popR r fun h r => ((inrow S 15 h i ∨ inrow S 16 h i ∨ inrow S 17 h i) ∧ h < xbase) ∧ nxt nx ls (.inr (.inr (S.2 h i)) :: r) S zI zL mc ms
    | .iastore => popI st fun x r => popI r fun i r => popR r fun h r => (inrow S 12 h i ∧ h < xbase) ∧ nxt nx ls r S (zput zI h i x) zL mc ms
    | .bastore => popI st fun x r => popI r fun i r => popR r fun h r => (inrow S 14 h i ∧ h < xbase) ∧ (x = 0 ∨ x = 1) ∧ nxt nx ls r S (zput zI h i x) zL mc ms
    | .lastore => popL st fun x r => popI r fun i r => popR r fun h r => (inrow S 13 h i ∧ h < xbase) ∧ nxt nx ls r S zI (zput zL h i x) mc ms
    | .aastore => popR st fun x r => popI r fun i r => popR r fun h r => (((inrow S 15 h i ∧ S.1[x]? = some (3, 0)) ∨ (inrow S 16 h i ∧ S.1[x]? = some (1, 0)) ∨ (inrow S 17 h i ∧ S.1[x]? = some (7, 0))) ∧ h < xbase ∧ x < xbase) ∧ nxt nx ls r (S.1, rput S.2 h i (some x)) zI zL mc ms
    | .arraylength => popR st fun h r => if h < xbase then ∃ n kd : Nat, 12 ≤ kd ∧ S.1[h]? = some (kd, n) ∧ nxt nx ls (pI n :: r) S zI zL mc ms else h - xbase < 4 ∧ nxt nx ls (pI (X (h - xbase)).1 :: r) S zI zL mc ms
    | .newarray _ => popI st fun n r => (0 ≤ n ∧ n ≤ 10000 ∧ 1 ≤ mc ∧ n.toNat ≤ ms ∧ S.1.length < 10000) ∧ nxt nx ls (pR S.1.length :: r) (S.1 ++ [(a, n.toNat)], S.2) (zrow zI S.1.length fun _ => 0) (zrow zL S.1.length fun _ => 0) (mc - 1) (ms - n.toNat)
    | .anewarray _ => popI st fun n r => (0 ≤ n ∧ n ≤ 10000 ∧ 1 ≤ mc ∧ n.toNat ≤ ms ∧ S.1.length < 10000) ∧ nxt nx ls (pR S.1.length :: r) (S.1 ++ [(a, n.toNat)], rrow S.2 S.1.length) zI zL (mc - 1) (ms - n.toNat)
    | .new _ => (1 ≤ mc ∧ NF a ≤ ms ∧ S.1.length < 10000) ∧ nxt nx ls (pR S.1.length :: st) (S.1 ++ [(a, 0)], rrow S.2 S.1.length) (zrow zI S.1.length fun _ => 0) (zrow zL S.1.length fun _ => 0) (mc - 1) (ms - NF a)
    | .invokevirtual _ => recv RC a b st S ∧ calld MC MS call Q nxt a b nx ls st S zI zL mc ms
    | .invokestatic _ => if c = 6 then acop st S zI zL fun r zI' zL' => nxt nx ls r S zI' zL' mc ms else calld MC MS call Q nxt a b nx ls st S zI zL mc ms
    | .invokespecial _ => if c = 5 then popR st fun _ r => pcats r ≤ 8 ∧ nxt nx ls r S zI zL mc ms else recvA b st ∧ calld MC MS call Q nxt a b nx ls st S zI zL mc ms
    | _ => False
def stepC (swT : List (List Nat)) (MC MS RC NF : Nat → Nat) (X : PX) (call : PC) (Q : PQ) (C : List PI) (nxt : PK) : PK := fun pc ls st S zI zL mc ms => match C[pc]? with
  | none => False
  | some ins => stepP swT MC MS RC NF X call Q nxt ins ls st S zI zL mc ms
/-- the least predicate that the steps keep: from here the run ends, with Q -/
def runL (swT : List (List Nat)) (MC MS RC NF : Nat → Nat) (X : PX) (call : PC) (Q : PQ) (C : List PI) : PK := fun pc ls st S zI zL mc ms =>
  ∀ P : PK, (∀ pc ls st S zI zL mc ms, stepC swT MC MS RC NF X call Q C P pc ls st S zI zL mc ms → P pc ls st S zI zL mc ms) → P pc ls st S zI zL mc ms
def entryL (n : Nat) (as : List PV) : List (Option PV) := (as.flatMap (fun v => match v with | .inr (.inl _) => [some v, none] | _ => [some v])) ++ List.replicate (n - (as.flatMap (fun v => match v with | .inr (.inl _) => [some v, none] | _ => [some v])).length) none
theorem popI_mono {st : List PV} {k k' : Int → List PV → Prop} (h : ∀ a r, k a r → k' a r) : popI st k → popI st k' := by
  unfold popI; split
  · exact h _ _
  · exact id
theorem popL_mono {st : List PV} {k k' : Int → List PV → Prop} (h : ∀ a r, k a r → k' a r) : popL st k → popL st k' := by
  unfold popL; split
  · exact h _ _
  · exact id
theorem popR_mono {st : List PV} {k k' : Nat → List PV → Prop} (h : ∀ a r, k a r → k' a r) : popR st k → popR st k' := by
  unfold popR; split
  · exact h _ _
  · exact id
theorem popV_mono {st : List PV} {k k' : PV → List PV → Prop} (h : ∀ a r, k a r → k' a r) : popV st k → popV st k' := by
  unfold popV; split
  · exact h _ _
  · exact h _ _
  · exact id
theorem ldI_mono {ls : List (Option PV)} {i : Nat} {k k' : Int → Prop} (h : ∀ a, k a → k' a) : ldI ls i k → ldI ls i k' := by
  unfold ldI; split
  · exact h _
  · exact id
theorem ldL_mono {ls : List (Option PV)} {i : Nat} {k k' : Int → Prop} (h : ∀ a, k a → k' a) : ldL ls i k → ldL ls i k' := by
  unfold ldL; split
  · exact h _
  · exact id
theorem ldR_mono {ls : List (Option PV)} {i : Nat} {k k' : Nat → Prop} (h : ∀ a, k a → k' a) : ldR ls i k → ldR ls i k' := by
  unfold ldR; split
  · exact h _
  · exact id
theorem elI_mono {S : SS} {X : PX} {zI : ZM} {h : Nat} {i : Int} {k k' : Int → Prop} (hk : ∀ a, k a → k' a) : elI S X zI h i k → elI S X zI h i k' := by
  unfold elI; split
  · exact And.imp_right (hk _)
  · exact And.imp_right (hk _)
theorem acopy_mono {S : SS} {zI zL : ZM} {src : Nat} {sp : Int} {dst : Nat} {dp n : Int} {k k' : ZM → ZM → Prop} (h : ∀ a b, k a b → k' a b) : acopy S zI zL src sp dst dp n k → acopy S zI zL src sp dst dp n k' := by
  rintro ⟨kd, n0, n1, h1, h2, h3, h4, h5, h6, h7, h8, h9, h10, h11, h12⟩
  exact ⟨kd, n0, n1, h1, h2, h3, h4, h5, h6, h7, h8, h9, h10, h11, h12.imp (And.imp_right (h _ _)) (And.imp_right (h _ _))⟩
theorem acop_mono {st : List PV} {S : SS} {zI zL : ZM} {k k' : List PV → ZM → ZM → Prop} (h : ∀ r a b, k r a b → k' r a b) : acop st S zI zL k → acop st S zI zL k' :=
  popI_mono fun _ _ => popI_mono fun _ _ => popR_mono fun _ _ => popI_mono fun _ _ => popR_mono fun _ _ => And.imp_right (acopy_mono (h _))
theorem ite_mono {c : Prop} [Decidable c] {A B A' B' : Prop} (h1 : A → A') (h2 : B → B') : (if c then A else B) → (if c then A' else B') := by
  split
  · exact h1
  · exact h2
theorem ex_mono {α : Sort _} {p q : α → Prop} (h : ∀ a, p a → q a) : (∃ a, p a) → ∃ a, q a := fun ⟨a, b⟩ => ⟨a, h a b⟩
theorem br_mono {c A B A' B' : Prop} (h1 : A → A') (h2 : B → B') : ((c → A) ∧ (¬ c → B)) → ((c → A') ∧ (¬ c → B')) := And.imp (fun f z => h1 (f z)) (fun f z => h2 (f z))
def callMono (call : PC) : Prop := ∀ (f : Nat) (as : List PV) (S : SS) (zI zL : ZM) (Q Q' : PQ), (∀ r S zI zL, Q r S zI zL → Q' r S zI zL) → call f as S zI zL Q → call f as S zI zL Q'
theorem calld_mono {MC MS : Nat → Nat} {call : PC} (hc : callMono call) {Q Q' : PQ} {nxt nxt' : PK} (hn : ∀ pc ls st S zI zL mc ms, nxt pc ls st S zI zL mc ms → nxt' pc ls st S zI zL mc ms) {f n nx : Nat} {ls : List (Option PV)} {st : List PV} {S : SS} {zI zL : ZM} {mc ms : Nat} :
    calld MC MS call Q nxt f n nx ls st S zI zL mc ms → calld MC MS call Q' nxt' f n nx ls st S zI zL mc ms :=
  And.imp_right (And.imp_right (And.imp_right (And.imp_right (hc _ _ _ _ _ _ _ (fun _ _ _ _ => hn _ _ _ _ _ _ _ _)))))
set_option maxHeartbeats 4000000 in
theorem stepP_mono {swT : List (List Nat)} {MC MS RC NF : Nat → Nat} {X : PX} {call : PC} {Q Q' : PQ} {nxt nxt' : PK} (hc : callMono call) (hq : ∀ r S zI zL, Q r S zI zL → Q' r S zI zL) (hn : ∀ pc ls st S zI zL mc ms, nxt pc ls st S zI zL mc ms → nxt' pc ls st S zI zL mc ms)
    {ins : PI} {ls : List (Option PV)} {st : List PV} {S : SS} {zI zL : ZM} {mc ms : Nat} : stepP swT MC MS RC NF X call Q nxt ins ls st S zI zL mc ms → stepP swT MC MS RC NF X call Q' nxt' ins ls st S zI zL mc ms := by
  obtain ⟨i, nx, a, b, c⟩ := ins
  cases i <;> dsimp only [stepP] <;> first
    | exact id
    | exact hn _ _ _ _ _ _ _ _
    | (repeat' (first
        | exact hn _ _ _ _ _ _ _ _
        | exact hq _ _ _ _
        | with_reducible refine popI_mono fun _ _ => ?_
        | with_reducible refine popL_mono fun _ _ => ?_
        | with_reducible refine popR_mono fun _ _ => ?_
        | with_reducible refine popV_mono fun _ _ => ?_
        | with_reducible refine ldI_mono fun _ => ?_
        | with_reducible refine ldL_mono fun _ => ?_
        | with_reducible refine ldR_mono fun _ => ?_
        | with_reducible refine elI_mono fun _ => ?_
        | with_reducible refine acop_mono fun _ _ _ => ?_
        | with_reducible refine ite_mono ?_ ?_
        | with_reducible refine calld_mono hc hn
        | with_reducible refine br_mono ?_ ?_
        | with_reducible refine ex_mono fun _ => ?_
        | with_reducible refine And.imp_right ?_))
theorem runL_step {swT : List (List Nat)} {MC MS RC NF : Nat → Nat} {X : PX} {call : PC} {Q : PQ} {C : List PI} (hc : callMono call) {pc : Nat} {ls : List (Option PV)} {st : List PV} {S : SS} {zI zL : ZM} {mc ms : Nat} {ins : PI} (h : C[pc]? = some ins)
    (k : stepP swT MC MS RC NF X call Q (runL swT MC MS RC NF X call Q C) ins ls st S zI zL mc ms) : runL swT MC MS RC NF X call Q C pc ls st S zI zL mc ms := by
  intro P hP
  refine hP _ _ _ _ _ _ _ _ ?_
  unfold stepC
  rw [h]
  exact stepP_mono hc (fun _ _ _ _ => id) (fun _ _ _ _ _ _ _ _ hr => hr P hP) k
theorem runL_mono {swT : List (List Nat)} {MC MS RC NF : Nat → Nat} {X : PX} {call : PC} {Q Q' : PQ} {C : List PI} (hc : callMono call) (hq : ∀ r S zI zL, Q r S zI zL → Q' r S zI zL) {pc : Nat} {ls : List (Option PV)} {st : List PV} {S : SS} {zI zL : ZM} {mc ms : Nat}
    (h : runL swT MC MS RC NF X call Q C pc ls st S zI zL mc ms) : runL swT MC MS RC NF X call Q' C pc ls st S zI zL mc ms := by
  refine h _ fun pc ls st S zI zL mc ms hs => ?_
  unfold stepC at hs
  split at hs
  · exact hs.elim
  · rename_i ins he
    exact runL_step hc he (stepP_mono hc hq (fun _ _ _ _ _ _ _ _ => id) hs)
