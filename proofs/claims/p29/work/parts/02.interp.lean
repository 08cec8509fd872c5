/-! A small machine over the world of the run: its state, its steps, and what it is to run a method's bytes in it. -/
/-- ints, references, longs, by address and place; how far the world's addresses go; the heap's size; the slots made so far -/
abbrev jgS : Type := (Nat → Nat → Int32) × (Nat → Nat → Option Nat) × (Nat → Nat → Int64) × Nat × Nat × Nat
/-- how a method ends: with an answer or none, or with an exception of a named kind; and the state behind it -/
abbrev jgR : Type := (Option Value ⊕ String) × jgS
abbrev jgSpec : Type := List Value → jgS → jgR → Prop
/-- from where on the addresses are the world's; the two static rows; the kind and length of each address; int rows outside -/
abbrev jgG : Type := Nat × Nat × Nat × (Nat → Nat × Nat) × (Nat → Option (Nat × (Nat → Int32)))
/-- a method that is called: how; its receiver's kind; name, bytes, locals, answer, arguments; frames and words of room; its handlers -/
abbrev jgI : Type := Nat × Nat × MethodName × ByteArray × Nat × Option FieldType × Nat × Nat × Nat × List (Nat × Nat × Nat × Nat)
abbrev jgPool : Type := (Nat × Nat) ⊕ (jgI × jgSpec) ⊕ Value ⊕ Nat ⊕ Nat ⊕ Nat ⊕ Unit
abbrev jpF (ci k : Nat) : jgPool := .inl (ci, k)
abbrev jpC (i : jgI) (S : jgSpec) : jgPool := .inr (.inl (i, S))
abbrev jpK (v : Value) : jgPool := .inr (.inr (.inl v))
abbrev jpN (ci : Nat) : jgPool := .inr (.inr (.inr (.inl ci)))
abbrev jpA (j : Nat) : jgPool := .inr (.inr (.inr (.inr (.inl j))))
abbrev jpS (w : Nat) : jgPool := .inr (.inr (.inr (.inr (.inr (.inl w)))))
abbrev jpO : jgPool := .inr (.inr (.inr (.inr (.inr (.inr ())))))
/-- a method: its bytes, its pool's entries, the places at which it makes and throws, its handlers, its answer, whether it is a constructor -/
abbrev jgM : Type := ByteArray × List (Nat × jgPool) × List (Nat × String) × List (Nat × Nat × Nat × Nat × String) × Option FieldType × Bool
def jgfind : List (Nat × jgPool) → Nat → Option jgPool
  | [], _ => none
  | q :: l, i => if q.1 = i then some q.2 else jgfind l i
def jgx : List (Nat × String) → Nat → Option String
  | [], _ => none
  | q :: l, i => if q.1 = i then some q.2 else jgx l i
def jghd : List (Nat × Nat × Nat × Nat × String) → Nat → String → Option Nat
  | [], _, _ => none
  | q :: l, pc, E => if q.1 ≤ pc ∧ pc < q.2.1 ∧ q.2.2.2.2 = E then some q.2.2.1 else jghd l pc E
def jgl : List (Option Value) → Nat → Option Value
  | [], _ => none
  | v :: _, 0 => v
  | _ :: l, n + 1 => jgl l n
def jgc2 (v : Option Value) : Bool := match v with
  | some (.long _) => false
  | some (.double _) => false
  | _ => true
/-- the slot ahead holds no long or double -/
def jgok (ls : List (Option Value)) : Nat → Bool
  | 0 => true
  | n + 1 => jgc2 (jgl ls n)
def jwt (σ : jgS) : Nat := σ.2.2.2.1
def jhs (σ : jgS) : Nat := σ.2.2.2.2.1
def jsl (σ : jgS) : Nat := σ.2.2.2.2.2
def jwI (σ : jgS) (a k : Nat) (x : Int32) : jgS := (fun a' k' => if a' = a ∧ k' = k then x else σ.1 a' k', σ.2)
def jwR (σ : jgS) (a k : Nat) (q : Option Nat) : jgS := (σ.1, fun a' k' => if a' = a ∧ k' = k then q else σ.2.1 a' k', σ.2.2)
def jwY (σ : jgS) (a k : Nat) (x : Int64) : jgS := (σ.1, σ.2.1, fun a' k' => if a' = a ∧ k' = k then x else σ.2.2.1 a' k', σ.2.2.2)
/-- a cell outside the world was made -/
def jwh (σ : jgS) (n : Nat) : jgS := (σ.1, σ.2.1, σ.2.2.1, σ.2.2.2.1, σ.2.2.2.2.1 + 1, σ.2.2.2.2.2 + n)
/-- a cell of the world was made, n slots, at its end -/
def jwn (σ : jgS) (n : Nat) : jgS := (fun a k => if a = σ.2.2.2.1 then 0 else σ.1 a k, fun a k => if a = σ.2.2.2.1 then none else σ.2.1 a k, fun a k => if a = σ.2.2.2.1 then 0 else σ.2.2.1 a k, σ.2.2.2.1 + 1, σ.2.2.2.2.1 + 1, σ.2.2.2.2.2 + n)
def jin (G : jgG) (σ : jgS) (a : Nat) : Prop := G.1 ≤ a ∧ a < jwt σ
/-- is the field an int -/
def jty : Nat → Nat → Bool
  | 0, 0 => false
  | 0, 2 => false
  | 0, 3 => false
  | 0, 4 => false
  | 1, 0 => false
  | 5, 0 => false
  | 5, 1 => false
  | 5, 2 => false
  | 6, _ => false
  | 7, 1 => false
  | 7, 2 => false
  | 7, 3 => false
  | 7, 5 => false
  | 7, 7 => false
  | _, _ => true
def jN : Nat → Nat
  | 0 => 7
  | 1 => 3
  | 2 => 5
  | 3 => 4
  | 4 => 9
  | 5 => 8
  | 6 => 4
  | _ => 11
def jfv (ci : Nat) (σ : jgS) (a k : Nat) : Value := if jty ci k = true then .int (σ.1 a k) else va_rf (σ.2.1 a k)
/-- an int row: of the world, or outside -/
def jga (G : jgG) (σ : jgS) (a : Nat) : Option (Nat × (Nat → Int32)) := if G.1 ≤ a then (if a < jwt σ ∧ (G.2.2.2.1 a).1 = 8 then some ((G.2.2.2.1 a).2, σ.1 a) else none) else G.2.2.2.2 a
def jcmp (c : Jvm.ClassFile.Cond) (x y : Int32) : Prop := match c with
  | .eq => x = y
  | .ne => ¬ x = y
  | .lt => x < y
  | .ge => y ≤ x
  | .gt => y < x
  | .le => x ≤ y
def jtgt (pc : Nat) (off : Int) (k : Nat → Prop) : Prop := ∃ t : Nat, (pc : Int) + off = (t : Int) ∧ k t
/-- what a method's call is handed: the top n of the stack, the first one deepest -/
def jargs (st : List Value) (n : Nat) : List Value := (st.take n).reverse
def jcat (st : List Value) : Nat := (st.map fun v => v.category).sum
def jcall (M : jgM) (pc : Nat) (ls : List (Option Value)) (rest : List Value) (k : Nat → List (Option Value) → List Value → jgS → Prop) (Φ : jgR → Prop) (r : jgR) : Prop := match r.1 with
  | .inl v => k (pc + 3) ls (v.toList ++ rest) r.2
  | .inr E => match jghd M.2.2.2.1 pc E with
    | some t => ∀ q : Nat, k t ls [.ref q] r.2
    | none => Φ (.inr E, r.2)
def jgOp (G : jgG) (M : jgM) (pc : Nat) (ins : Instr) (len : Nat) (ls : List (Option Value)) (st : List Value) (σ : jgS) (k : Nat → List (Option Value) → List Value → jgS → Prop) (Φ : jgR → Prop) : Prop := match ins with
  | .aload_n i => len = 1 ∧ ∃ a, jgl ls i = some (.ref a) ∧ k (pc + 1) ls (.ref a :: st) σ
  | .aload i => len = 2 ∧ ∃ a, jgl ls i = some (.ref a) ∧ k (pc + 2) ls (.ref a :: st) σ
  | .iload_n i => len = 1 ∧ ∃ x, jgl ls i = some (.int x) ∧ k (pc + 1) ls (.int x :: st) σ
  | .iload i => len = 2 ∧ ∃ x, jgl ls i = some (.int x) ∧ k (pc + 2) ls (.int x :: st) σ
  | .lload_n i => len = 1 ∧ ∃ x, jgl ls i = some (.long x) ∧ k (pc + 1) ls (.long x :: st) σ
  | .lload i => len = 2 ∧ ∃ x, jgl ls i = some (.long x) ∧ k (pc + 2) ls (.long x :: st) σ
  | .dload_n i => len = 1 ∧ ∃ x, jgl ls i = some (.double x) ∧ k (pc + 1) ls (.double x :: st) σ
  | .dload i => len = 2 ∧ ∃ x, jgl ls i = some (.double x) ∧ k (pc + 2) ls (.double x :: st) σ
  | .iconst n => len = 1 ∧ k (pc + 1) ls (.int (Int32.ofInt n) :: st) σ
  | .bipush n => len = 2 ∧ k (pc + 2) ls (.int (Int8.ofInt n).toInt32 :: st) σ
  | .sipush n => len = 3 ∧ k (pc + 3) ls (.int (Int16.ofInt n).toInt32 :: st) σ
  | .lconst n => len = 1 ∧ k (pc + 1) ls (.long (Int64.ofNat n) :: st) σ
  | .dconst n => len = 1 ∧ k (pc + 1) ls (.double (if n = 0 then FP.dconst0 else FP.dconst1) :: st) σ
  | .ldc i => len = 2 ∧ ∃ x, jgfind M.2.1 i = some (jpK (.int x)) ∧ k (pc + 2) ls (.int x :: st) σ
  | .istore_n i => len = 1 ∧ ∃ x rest, st = .int x :: rest ∧ (i : Nat) < ls.length ∧ jgok ls i = true ∧ k (pc + 1) (ls.set i (some (.int x))) rest σ
  | .istore i => len = 2 ∧ ∃ x rest, st = .int x :: rest ∧ i < ls.length ∧ jgok ls i = true ∧ k (pc + 2) (ls.set i (some (.int x))) rest σ
  | .astore_n i => len = 1 ∧ ∃ x rest, st = .ref x :: rest ∧ (i : Nat) < ls.length ∧ jgok ls i = true ∧ k (pc + 1) (ls.set i (some (.ref x))) rest σ
  | .astore i => len = 2 ∧ ∃ x rest, st = .ref x :: rest ∧ i < ls.length ∧ jgok ls i = true ∧ k (pc + 2) (ls.set i (some (.ref x))) rest σ
  | .lstore_n i => len = 1 ∧ ∃ x rest, st = .long x :: rest ∧ (i : Nat) + 1 < ls.length ∧ jgok ls i = true ∧ k (pc + 1) ((ls.set i (some (.long x))).set (i + 1) none) rest σ
  | .lstore i => len = 2 ∧ ∃ x rest, st = .long x :: rest ∧ i + 1 < ls.length ∧ jgok ls i = true ∧ k (pc + 2) ((ls.set i (some (.long x))).set (i + 1) none) rest σ
  | .dstore_n i => len = 1 ∧ ∃ x rest, st = .double x :: rest ∧ (i : Nat) + 1 < ls.length ∧ jgok ls i = true ∧ k (pc + 1) ((ls.set i (some (.double x))).set (i + 1) none) rest σ
  | .dstore i => len = 2 ∧ ∃ x rest, st = .double x :: rest ∧ i + 1 < ls.length ∧ jgok ls i = true ∧ k (pc + 2) ((ls.set i (some (.double x))).set (i + 1) none) rest σ
  | .iinc i n => len = 3 ∧ ∃ x, jgl ls i = some (.int x) ∧ i < ls.length ∧ jgok ls i = true ∧ k (pc + 3) (ls.set i (some (.int (x + Int32.ofInt n)))) st σ
  | .iadd => len = 1 ∧ ∃ x y rest, st = .int y :: .int x :: rest ∧ k (pc + 1) ls (.int (x + y) :: rest) σ
  | .isub => len = 1 ∧ ∃ x y rest, st = .int y :: .int x :: rest ∧ k (pc + 1) ls (.int (x - y) :: rest) σ
  | .imul => len = 1 ∧ ∃ x y rest, st = .int y :: .int x :: rest ∧ k (pc + 1) ls (.int (x * y) :: rest) σ
  | .irem => len = 1 ∧ ∃ x y rest, st = .int y :: .int x :: rest ∧ ¬ y = 0 ∧ k (pc + 1) ls (.int (x - x / y * y) :: rest) σ
  | .iand => len = 1 ∧ ∃ x y rest, st = .int y :: .int x :: rest ∧ k (pc + 1) ls (.int (x &&& y) :: rest) σ
  | .ior => len = 1 ∧ ∃ x y rest, st = .int y :: .int x :: rest ∧ k (pc + 1) ls (.int (x ||| y) :: rest) σ
  | .ishl => len = 1 ∧ ∃ x y rest, st = .int y :: .int x :: rest ∧ k (pc + 1) ls (.int (x <<< (y &&& 31)) :: rest) σ
  | .ishr => len = 1 ∧ ∃ x y rest, st = .int y :: .int x :: rest ∧ k (pc + 1) ls (.int (x >>> (y &&& 31)) :: rest) σ
  | .ladd => len = 1 ∧ ∃ x y rest, st = .long y :: .long x :: rest ∧ k (pc + 1) ls (.long (x + y) :: rest) σ
  | .lsub => len = 1 ∧ ∃ x y rest, st = .long y :: .long x :: rest ∧ k (pc + 1) ls (.long (x - y) :: rest) σ
  | .lmul => len = 1 ∧ ∃ x y rest, st = .long y :: .long x :: rest ∧ k (pc + 1) ls (.long (x * y) :: rest) σ
  | .lrem => len = 1 ∧ ∃ x y rest, st = .long y :: .long x :: rest ∧ ¬ y = 0 ∧ k (pc + 1) ls (.long (x - x / y * y) :: rest) σ
  | .lshl => len = 1 ∧ ∃ x y rest, st = .int y :: .long x :: rest ∧ k (pc + 1) ls (.long (x <<< (y.toInt64 &&& 63)) :: rest) σ
  | .i2l => len = 1 ∧ ∃ x rest, st = .int x :: rest ∧ k (pc + 1) ls (.long x.toInt64 :: rest) σ
  | .i2d => len = 1 ∧ ∃ x rest, st = .int x :: rest ∧ k (pc + 1) ls (.double (FP.i2d x) :: rest) σ
  | .d2l => len = 1 ∧ ∃ x rest, st = .double x :: rest ∧ k (pc + 1) ls (.long (FP.d2l x) :: rest) σ
  | .lcmp => len = 1 ∧ ∃ x y rest, st = .long y :: .long x :: rest ∧ k (pc + 1) ls (.int (lg_cmp x y) :: rest) σ
  | .dcmp op => len = 1 ∧ ∃ x y rest, st = .double y :: .double x :: rest ∧ k (pc + 1) ls (.int (Op.cmpValue (FP.dcmp x y) op) :: rest) σ
  | .dadd => len = 1 ∧ ∃ x y rest, st = .double y :: .double x :: rest ∧ vf_n64 (FP.dadd x y) ∧ k (pc + 1) ls (.double (FP.dadd x y) :: rest) σ
  | .dsub => len = 1 ∧ ∃ x y rest, st = .double y :: .double x :: rest ∧ vf_n64 (FP.dsub x y) ∧ k (pc + 1) ls (.double (FP.dsub x y) :: rest) σ
  | .dmul => len = 1 ∧ ∃ x y rest, st = .double y :: .double x :: rest ∧ vf_n64 (FP.dmul x y) ∧ k (pc + 1) ls (.double (FP.dmul x y) :: rest) σ
  | .ddiv => len = 1 ∧ ∃ x y rest, st = .double y :: .double x :: rest ∧ vf_n64 (FP.ddiv x y) ∧ k (pc + 1) ls (.double (FP.ddiv x y) :: rest) σ
  | .if_icmp c off => len = 3 ∧ ∃ x y rest, st = .int y :: .int x :: rest ∧ jtgt pc off fun t => (jcmp c x y → k t ls rest σ) ∧ (¬ jcmp c x y → k (pc + 3) ls rest σ)
  | .ifCond c off => len = 3 ∧ ∃ x rest, st = .int x :: rest ∧ jtgt pc off fun t => (jcmp c x 0 → k t ls rest σ) ∧ (¬ jcmp c x 0 → k (pc + 3) ls rest σ)
  | .goto off => len = 3 ∧ jtgt pc off fun t => k t ls st σ
  | .tableswitch d lo hi offs => ∃ x rest, st = .int x :: rest ∧ ((x.toInt < lo ∨ hi < x.toInt) → jtgt pc d fun t => k t ls rest σ) ∧ (¬ (x.toInt < lo ∨ hi < x.toInt) → ∃ off, offs[(x.toInt - lo).toNat]? = some off ∧ jtgt pc off fun t => k t ls rest σ)
  | .lookupswitch d ps => (ps.toList.zip (ps.toList.drop 1)).all (fun (a, next) => a.1 < next.1) = true ∧ ∃ x rest, st = .int x :: rest ∧ jtgt pc (Op.lookupswitch.offset ps.toList d x.toInt) fun t => k t ls rest σ
  | .getfield i => len = 3 ∧ ∃ a rest ci j, st = .ref a :: rest ∧ jgfind M.2.1 i = some (jpF ci j) ∧ jin G σ a ∧ (G.2.2.2.1 a).1 = ci ∧ k (pc + 3) ls (jfv ci σ a j :: rest) σ
  | .putfield i => len = 3 ∧ ∃ v a rest ci j, st = v :: .ref a :: rest ∧ jgfind M.2.1 i = some (jpF ci j) ∧ jin G σ a ∧ (G.2.2.2.1 a).1 = ci ∧ ((jty ci j = true ∧ ∃ x, v = .int x ∧ k (pc + 3) ls rest (jwI σ a j x)) ∨ (jty ci j = false ∧ ∃ q, v = .ref q ∧ M.2.2.2.2.2 = true ∧ k (pc + 3) ls rest (jwR σ a j (some q))))
  | .iaload => len = 1 ∧ ∃ i a rest n f, st = .int i :: .ref a :: rest ∧ jga G σ a = some (n, f) ∧ vp_in i n ∧ k (pc + 1) ls (.int (f i.toNatClampNeg) :: rest) σ
  | .iastore => len = 1 ∧ ∃ x i a rest n, st = .int x :: .int i :: .ref a :: rest ∧ jin G σ a ∧ G.2.2.2.1 a = (8, n) ∧ vp_in i n ∧ k (pc + 1) ls rest (jwI σ a i.toNatClampNeg x)
  | .dup_x2 => len = 1 ∧ ∃ v w u rest, st = v :: w :: u :: rest ∧ v.category = 1 ∧ w.category = 1 ∧ u.category = 1 ∧ k (pc + 1) ls (v :: w :: u :: v :: rest) σ
  | .lastore => False
  | .aaload => len = 1 ∧ ∃ i a rest j n, st = .int i :: .ref a :: rest ∧ jin G σ a ∧ j < 3 ∧ G.2.2.2.1 a = (10 + j, n) ∧ vp_in i n ∧ k (pc + 1) ls (va_rf (σ.2.1 a i.toNatClampNeg) :: rest) σ
  | .aastore => len = 1 ∧ ∃ q i a rest j n, st = .ref q :: .int i :: .ref a :: rest ∧ jin G σ a ∧ j < 3 ∧ G.2.2.2.1 a = (10 + j, n) ∧ vp_in i n ∧ jin G σ q ∧ (G.2.2.2.1 q).1 = (if j = 0 then 4 else if j = 1 then 3 else 5) ∧ k (pc + 1) ls rest (jwR σ a i.toNatClampNeg (some q))
  | .newarray ty => len = 2 ∧ ∃ n rest, st = .int n :: rest ∧ ¬ n < 0 ∧ n.toNatClampNeg ≤ 60000000 ∧ jwt σ = jhs σ ∧ (ty = .int ∧ G.2.2.2.1 (jwt σ) = (8, n.toNatClampNeg)) ∧ k (pc + 2) ls (.ref (jwt σ) :: rest) (jwn σ n.toNatClampNeg)
  | .anewarray i => len = 3 ∧ ∃ n rest j, st = .int n :: rest ∧ jgfind M.2.1 (i + 1000) = some (jpA j) ∧ ¬ n < 0 ∧ n.toNatClampNeg ≤ 60000000 ∧ jwt σ = jhs σ ∧ G.2.2.2.1 (jwt σ) = (10 + j, n.toNatClampNeg) ∧ k (pc + 3) ls (.ref (jwt σ) :: rest) (jwn σ n.toNatClampNeg)
  | .new i => len = 3 ∧ match jgx M.2.2.1 pc with
    | some E => Φ (.inr E, jwh σ 6) ∧ jcat st ≤ 8
    | none => ∃ ci, jgfind M.2.1 i = some (jpN ci) ∧ jwt σ = jhs σ ∧ (G.2.2.2.1 (jwt σ)).1 = ci ∧ k (pc + 3) ls (.ref (jwt σ) :: st) (jwn σ (jN ci))
  | .arraylength => len = 1 ∧ ∃ a rest n f, st = .ref a :: rest ∧ jga G σ a = some (n, f) ∧ k (pc + 1) ls (.int (Int32.ofNat n) :: rest) σ
  | .dup => len = 1 ∧ ∃ v rest, st = v :: rest ∧ v.category = 1 ∧ k (pc + 1) ls (v :: v :: rest) σ
  | .dup2 => len = 1 ∧ ∃ v w rest, st = v :: w :: rest ∧ v.category = 1 ∧ w.category = 1 ∧ k (pc + 1) ls (v :: w :: v :: w :: rest) σ
  | .pop => len = 1 ∧ ∃ v rest, st = v :: rest ∧ v.category = 1 ∧ k (pc + 1) ls rest σ
  | .invokevirtual i => len = 3 ∧ ∃ I S b As, jgfind M.2.1 i = some (jpC I S) ∧ I.1 = 0 ∧ I.2.2.2.2.2.2.1 + 1 ≤ st.length ∧ jargs st (I.2.2.2.2.2.2.1 + 1) = .ref b :: As ∧ jin G σ b ∧ (G.2.2.2.1 b).1 = I.2.1 ∧ jcat (st.drop (I.2.2.2.2.2.2.1 + 1)) ≤ 8 ∧ ∃ r, S (.ref b :: As) σ r ∧ jcall M pc ls (st.drop (I.2.2.2.2.2.2.1 + 1)) k Φ r
  | .invokespecial i => len = 3 ∧ ((jgfind M.2.1 i = some jpO ∧ ∃ a rest, st = .ref a :: rest ∧ jcat rest ≤ 8 ∧ k (pc + 3) ls rest σ) ∨ ∃ I S b As, jgfind M.2.1 i = some (jpC I S) ∧ (I.1 = 2 ∨ I.1 = 3) ∧ I.2.2.2.2.2.2.1 + 1 ≤ st.length ∧ jargs st (I.2.2.2.2.2.2.1 + 1) = .ref b :: As ∧ jcat (st.drop (I.2.2.2.2.2.2.1 + 1)) ≤ 8 ∧ ∃ σ', S (.ref b :: As) σ (.inl none, σ') ∧ k (pc + 3) ls (st.drop (I.2.2.2.2.2.2.1 + 1)) σ')
  | .invokestatic i => len = 3 ∧ ∃ I S, jgfind M.2.1 i = some (jpC I S) ∧ (I.1 = 1 ∨ I.1 = 4) ∧ I.2.2.2.2.2.2.1 ≤ st.length ∧ jcat (st.drop I.2.2.2.2.2.2.1) ≤ 8 ∧ ∃ r, S (jargs st I.2.2.2.2.2.2.1) σ r ∧ jcall M pc ls (st.drop I.2.2.2.2.2.2.1) k Φ r
  | .getstatic i => len = 3 ∧ ∃ w, jgfind M.2.1 i = some (jpS w) ∧ k (pc + 3) ls (.ref (if w = 0 then G.2.1 else G.2.2.1) :: st) σ
  | .ireturn => len = 1 ∧ ∃ x ty, st = [.int x] ∧ M.2.2.2.2.1 = some ty ∧ narrow ty (.int x) = .int x ∧ Φ (.inl (some (.int x)), σ)
  | .lreturn => len = 1 ∧ ∃ x, st = [.long x] ∧ M.2.2.2.2.1 = some .long ∧ Φ (.inl (some (.long x)), σ)
  | .dreturn => len = 1 ∧ ∃ x, st = [.double x] ∧ M.2.2.2.2.1 = some .double ∧ Φ (.inl (some (.double x)), σ)
  | .return_ => len = 1 ∧ st = [] ∧ M.2.2.2.2.1 = none ∧ Φ (.inl none, σ)
  | _ => False
/-- from here the method comes to an end that Φ allows: the least set of places that is closed under steps -/
def Jr (G : jgG) (M : jgM) (pc : Nat) (ls : List (Option Value)) (st : List Value) (σ : jgS) (Φ : jgR → Prop) : Prop :=
  ∀ P : Nat → List (Option Value) → List Value → jgS → Prop, (∀ pc ls st σ ins len, decode M.1 pc = .ok (ins, len) → jgOp G M pc ins len ls st σ P Φ → P pc ls st σ) → P pc ls st σ
theorem jcall_mono {M : jgM} {pc : Nat} {ls : List (Option Value)} {rest : List Value} {k k' : Nat → List (Option Value) → List Value → jgS → Prop} {Φ Φ' : jgR → Prop} (hk : ∀ a b c d, k a b c d → k' a b c d) (hΦ : ∀ r, Φ r → Φ' r) (r : jgR) : jcall M pc ls rest k Φ r → jcall M pc ls rest k' Φ' r := by
  unfold jcall
  split
  · exact hk _ _ _ _
  · split
    · exact fun h q => hk _ _ _ _ (h q)
    · exact hΦ _
theorem jtgt_mono {pc : Nat} {off : Int} {k k' : Nat → Prop} (hk : ∀ a, k a → k' a) : jtgt pc off k → jtgt pc off k' := Exists.imp fun a => And.imp id (hk a)
set_option maxHeartbeats 4000000 in
theorem jgOp_mono {G : jgG} {M : jgM} {pc : Nat} {ins : Instr} {len : Nat} {ls : List (Option Value)} {st : List Value} {σ : jgS} {k k' : Nat → List (Option Value) → List Value → jgS → Prop} {Φ Φ' : jgR → Prop} (hk : ∀ a b c d, k a b c d → k' a b c d) (hΦ : ∀ r, Φ r → Φ' r) : jgOp G M pc ins len ls st σ k Φ → jgOp G M pc ins len ls st σ k' Φ' := by
  unfold jgOp
  split
  all_goals
    first
    | exact id
    | (refine And.imp id ?_
       split
       · exact And.imp (hΦ _) id
       · exact Exists.imp fun _ => And.imp id (And.imp id (And.imp id (hk _ _ _ _))))
    | (repeat' first
        | exact id
        | exact hk _ _ _ _
        | exact hΦ _
        | exact jcall_mono hk hΦ _
        | refine And.imp ?_ ?_
        | refine Or.imp ?_ ?_
        | refine Exists.imp fun _ => ?_
        | refine jtgt_mono fun _ => ?_
        | refine fun h hc => (?_ : _ → _) (h hc))
theorem jr_of {G : jgG} {M : jgM} {pc : Nat} {ls : List (Option Value)} {st : List Value} {σ : jgS} {Φ : jgR → Prop} {ins : Instr} {len : Nat} (hd : decode M.1 pc = .ok (ins, len)) (h : jgOp G M pc ins len ls st σ (fun a b c d => Jr G M a b c d Φ) Φ) : Jr G M pc ls st σ Φ :=
  fun P hP => hP _ _ _ _ _ _ hd (jgOp_mono (fun _ _ _ _ h => h P hP) (fun _ h => h) h)
theorem jr_step {G : jgG} {M : jgM} {pc : Nat} {ls : List (Option Value)} {st : List Value} {σ : jgS} {Φ : jgR → Prop} {ins : Instr} {len : Nat} (hd : decode M.1 pc = .ok (ins, len)) : Jr G M pc ls st σ Φ ↔ jgOp G M pc ins len ls st σ (fun a b c d => Jr G M a b c d Φ) Φ := by
  refine ⟨fun h => ?_, jr_of hd⟩
  have h2 := h (fun pc ls st σ => ∃ ins len, decode M.1 pc = .ok (ins, len) ∧ jgOp G M pc ins len ls st σ (fun a b c d => Jr G M a b c d Φ) Φ) (fun pc ls st σ ins len hd h => ⟨ins, len, hd, jgOp_mono (fun a b c d h => by obtain ⟨ins, len, hd, h⟩ := h; exact jr_of hd h) (fun _ h => h) h⟩)
  obtain ⟨ins', len', hd', h2⟩ := h2
  cases hd.symm.trans hd'
  exact h2
/-- weaker ends -/
theorem jr_weaken {G : jgG} {M : jgM} {pc : Nat} {ls : List (Option Value)} {st : List Value} {σ : jgS} {Φ Ψ : jgR → Prop} (h : ∀ r, Φ r → Ψ r) (hr : Jr G M pc ls st σ Φ) : Jr G M pc ls st σ Ψ :=
  hr (fun a b c d => Jr G M a b c d Ψ) (fun _ _ _ _ _ _ hd ho => jr_of hd (jgOp_mono (fun _ _ _ _ h => h) h ho))
