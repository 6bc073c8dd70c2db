/-! THE ABSTRACT MACHINE. Objects are pairs (kind, number); a store gives each object's ints by their slots; what refers to what is fixed (ab_fr, ab_el). -/
abbrev ab_Ob : Type := Nat × Nat
abbrev ab_V : Type := Int32 ⊕ ab_Ob
abbrev ab_S : Type := Nat → Nat → Nat → Int32
/-- how a method ends: with an int or nothing, or by the exception of a number -/
abbrev ab_O : Type := Option Int32 ⊕ Nat
abbrev ab_Po : Type := ab_O → ab_S → Prop
abbrev ab_TR : Type := List ab_V → ab_S → ab_Po → Prop
abbrev ab_Gt : Type := Nat → List (Option ab_V) → List ab_V → ab_S → Nat → Prop
/-- a callee: the receiver's class number, how many arguments, 0 void or 1 int, cells, what it does -/
abbrev ab_call : Type := Nat × Nat × Nat × Nat × ab_TR
def ab_ex : Nat → String
  | 0 => "java/util/NoSuchElementException"
  | 1 => "java/lang/IndexOutOfBoundsException"
  | 2 => "java/lang/IllegalArgumentException"
  | 3 => "java/lang/UnsupportedOperationException"
  | _ => "java/lang/IllegalStateException"
/-- kinds: 0 GroveMerge, 1 History, 2 Merger, 3 EditDistance, 4 Tree (0 working, 1 to 12 commits, 13 result), 5 to 9 their rows, 10 trees, 11 to 13 rows of History, 14 conflicts, 15 to 18 ofParts, ofRests, 19 endsA, endsB, 21 the model, 22 to 40 its rows, 41 the law's out -/
def ab_nb : Nat → Nat
  | 4 => 14 | 5 => 14 | 6 => 14 | 7 => 14 | 8 => 14 | 9 => 14
  | 16 => 24 | 18 => 25 | 19 => 2 | 20 => 0
  | k => if k < 42 then 1 else 0
/-- the arrays: their element's kind (0 int, 1 boolean, 2 Tree, 3 int[], 4 long), their length -/
def ab_ar : Nat → Option (Nat × Nat)
  | 5 => some (0, 24) | 6 => some (0, 24) | 7 => some (0, 24) | 8 => some (0, 24) | 9 => some (0, 24)
  | 10 => some (2, 12) | 11 => some (0, 12) | 12 => some (0, 12) | 13 => some (0, 12) | 14 => some (0, 24)
  | 15 => some (3, 24) | 16 => some (0, 24) | 17 => some (3, 25) | 18 => some (0, 25) | 19 => some (0, 24)
  | 22 => some (1, 336) | 23 => some (0, 336) | 24 => some (0, 336) | 25 => some (0, 336)
  | 26 => some (0, 12) | 27 => some (0, 12) | 28 => some (0, 12) | 29 => some (0, 24) | 30 => some (1, 24)
  | 31 => some (0, 24) | 32 => some (0, 24) | 33 => some (0, 24) | 34 => some (0, 24) | 35 => some (0, 24) | 36 => some (0, 24)
  | 37 => some (0, 48) | 38 => some (0, 48) | 39 => some (0, 576) | 40 => some (0, 625) | 41 => some (4, 1)
  | _ => none
/-- what the places of an array of references hold -/
def ab_el : Nat → Nat → ab_Ob
  | 10, j => (4, j + 1)
  | 15, j => (16, j)
  | _, j => (18, j)
def ab_ci : Nat → Nat
  | 0 => 4 | 1 => 1 | 2 => 2 | 3 => 0 | 4 => 3 | _ => 5
def ab_nf : Nat → Nat
  | 0 => 7 | 1 => 5 | 2 => 3 | 3 => 4 | 4 => 6 | 21 => 27 | _ => 0
/-- the fields that refer -/
def ab_fr : Nat → Nat → Nat → Option ab_Ob
  | 0, 0, _ => some (4, 0) | 0, 1, _ => some (1, 0) | 0, 2, _ => some (2, 0) | 0, 3, _ => some (3, 0)
  | 1, 0, _ => some (10, 0) | 1, 1, _ => some (11, 0) | 1, 2, _ => some (12, 0) | 1, 4, _ => some (13, 0)
  | 2, 0, _ => some (4, 13) | 2, 1, _ => some (14, 0)
  | 3, 0, _ => some (15, 0) | 3, 1, _ => some (17, 0) | 3, 2, _ => some (19, 0) | 3, 3, _ => some (19, 1)
  | 4, 0, i => some (5, i) | 4, 1, i => some (6, i) | 4, 2, i => some (7, i) | 4, 3, i => some (8, i) | 4, 5, i => some (9, i)
  | 21, 1, _ => some (22, 0) | 21, 2, _ => some (23, 0) | 21, 3, _ => some (24, 0) | 21, 4, _ => some (25, 0)
  | 21, 7, _ => some (26, 0) | 21, 8, _ => some (27, 0) | 21, 9, _ => some (28, 0) | 21, 13, _ => some (29, 0)
  | 21, 14, _ => some (30, 0) | 21, 15, _ => some (31, 0) | 21, 16, _ => some (32, 0) | 21, 17, _ => some (33, 0)
  | 21, 19, _ => some (34, 0) | 21, 20, _ => some (35, 0) | 21, 22, _ => some (36, 0) | 21, 23, _ => some (37, 0)
  | 21, 24, _ => some (38, 0) | 21, 25, _ => some (39, 0) | 21, 26, _ => some (40, 0)
  | _, _, _ => none
def ab_fv (κ f i : Nat) (S : ab_S) : ab_V := match ab_fr κ f i with
  | some o => .inr o
  | none => .inl (S κ i f)
def ab_sr (S : ab_S) (κ i : Nat) (f : Nat → Int32) : ab_S := fun a b => if a = κ ∧ b = i then f else S a b
def ab_su (S : ab_S) (κ i j : Nat) (v : Int32) : ab_S := ab_sr S κ i (upd (S κ i) j v)
/-- what a caller goes on with -/
def ab_back (Q : ab_Po) (G : ab_Gt) (pc : Nat) (L : List (Option ab_V)) (rest : List ab_V) (k : Nat) : ab_Po := fun o S' => match o with
  | .inl none => G pc L rest S' k
  | .inl (some r) => G pc L (.inl r :: rest) S' k
  | .inr E => Q (.inr E) S'
/-- a method: its bytes; its fields (index, kind, field) that are read, that are written; its callees by their indices, virtual, static, of the nest; Math.min; arraycopy; the throws; int constants; 0 void, 1 int, 2 boolean; how many cells it may make -/
abbrev ab_M : Type := ByteArray × List (Nat × Nat × Nat) × List (Nat × Nat × Nat) × (Nat → Option ab_call) × (Nat → Option ab_call) × (Nat → Option ab_call) × List Nat × List Nat × (Nat → Option Nat) × List (Nat × Int32) × Nat × Nat
abbrev ab_cc (M : ab_M) : ByteArray := M.1
abbrev ab_fl (M : ab_M) : List (Nat × Nat × Nat) := M.2.1
abbrev ab_pl (M : ab_M) : List (Nat × Nat × Nat) := M.2.2.1
abbrev ab_cv (M : ab_M) : (Nat → Option ab_call) := M.2.2.2.1
abbrev ab_cs (M : ab_M) : (Nat → Option ab_call) := M.2.2.2.2.1
abbrev ab_cn (M : ab_M) : (Nat → Option ab_call) := M.2.2.2.2.2.1
abbrev ab_mn (M : ab_M) : List Nat := M.2.2.2.2.2.2.1
abbrev ab_ac (M : ab_M) : List Nat := M.2.2.2.2.2.2.2.1
abbrev ab_th (M : ab_M) : (Nat → Option Nat) := M.2.2.2.2.2.2.2.2.1
abbrev ab_kn (M : ab_M) : List (Nat × Int32) := M.2.2.2.2.2.2.2.2.2.1
abbrev ab_rk (M : ab_M) : Nat := M.2.2.2.2.2.2.2.2.2.2.1
abbrev ab_K (M : ab_M) : Nat := M.2.2.2.2.2.2.2.2.2.2.2
def ab_c_iload_n (M : ab_M) (Q : ab_Po) (G : ab_Gt) : Prop := ∀ (pc : Nat) (L : List (Option ab_V)) (st : List ab_V) (S : ab_S) (k : Nat) (n : Fin 4) (x : Int32), decode (ab_cc M) pc = .ok (.iload_n n, 1) → L[(n : Nat)]? = some (some (.inl x)) → G (pc + 1) L (.inl x :: st) S k → G pc L st S k
def ab_c_iload (M : ab_M) (Q : ab_Po) (G : ab_Gt) : Prop := ∀ (pc : Nat) (L : List (Option ab_V)) (st : List ab_V) (S : ab_S) (k : Nat) (n : Nat) (x : Int32), decode (ab_cc M) pc = .ok (.iload n, 2) → L[n]? = some (some (.inl x)) → G (pc + 2) L (.inl x :: st) S k → G pc L st S k
def ab_c_aload_n (M : ab_M) (Q : ab_Po) (G : ab_Gt) : Prop := ∀ (pc : Nat) (L : List (Option ab_V)) (st : List ab_V) (S : ab_S) (k : Nat) (n : Fin 4) (o : ab_Ob), decode (ab_cc M) pc = .ok (.aload_n n, 1) → L[(n : Nat)]? = some (some (.inr o)) → G (pc + 1) L (.inr o :: st) S k → G pc L st S k
def ab_c_aload (M : ab_M) (Q : ab_Po) (G : ab_Gt) : Prop := ∀ (pc : Nat) (L : List (Option ab_V)) (st : List ab_V) (S : ab_S) (k : Nat) (n : Nat) (o : ab_Ob), decode (ab_cc M) pc = .ok (.aload n, 2) → L[n]? = some (some (.inr o)) → G (pc + 2) L (.inr o :: st) S k → G pc L st S k
def ab_c_istore_n (M : ab_M) (Q : ab_Po) (G : ab_Gt) : Prop := ∀ (pc : Nat) (L : List (Option ab_V)) (st : List ab_V) (S : ab_S) (k : Nat) (n : Fin 4) (x : Int32), decode (ab_cc M) pc = .ok (.istore_n n, 1) → (n : Nat) < L.length → G (pc + 1) (L.set (n : Nat) (some (.inl x))) st S k → G pc L (.inl x :: st) S k
def ab_c_istore (M : ab_M) (Q : ab_Po) (G : ab_Gt) : Prop := ∀ (pc : Nat) (L : List (Option ab_V)) (st : List ab_V) (S : ab_S) (k : Nat) (n : Nat) (x : Int32), decode (ab_cc M) pc = .ok (.istore n, 2) → n < L.length → G (pc + 2) (L.set n (some (.inl x))) st S k → G pc L (.inl x :: st) S k
def ab_c_astore_n (M : ab_M) (Q : ab_Po) (G : ab_Gt) : Prop := ∀ (pc : Nat) (L : List (Option ab_V)) (st : List ab_V) (S : ab_S) (k : Nat) (n : Fin 4) (o : ab_Ob), decode (ab_cc M) pc = .ok (.astore_n n, 1) → (n : Nat) < L.length → G (pc + 1) (L.set (n : Nat) (some (.inr o))) st S k → G pc L (.inr o :: st) S k
def ab_c_astore (M : ab_M) (Q : ab_Po) (G : ab_Gt) : Prop := ∀ (pc : Nat) (L : List (Option ab_V)) (st : List ab_V) (S : ab_S) (k : Nat) (n : Nat) (o : ab_Ob), decode (ab_cc M) pc = .ok (.astore n, 2) → n < L.length → G (pc + 2) (L.set n (some (.inr o))) st S k → G pc L (.inr o :: st) S k
def ab_c_iinc (M : ab_M) (Q : ab_Po) (G : ab_Gt) : Prop := ∀ (pc : Nat) (L : List (Option ab_V)) (st : List ab_V) (S : ab_S) (k : Nat) (i : Nat) (n : Int) (x v : Int32), decode (ab_cc M) pc = .ok (.iinc i n, 3) → L[i]? = some (some (.inl x)) → x + Int32.ofInt n = v → G (pc + 3) (L.set i (some (.inl v))) st S k → G pc L st S k
def ab_c_iconst (M : ab_M) (Q : ab_Po) (G : ab_Gt) : Prop := ∀ (pc : Nat) (L : List (Option ab_V)) (st : List ab_V) (S : ab_S) (k : Nat) (n : Int) (v : Int32), decode (ab_cc M) pc = .ok (.iconst n, 1) → Int32.ofInt n = v → G (pc + 1) L (.inl v :: st) S k → G pc L st S k
def ab_c_bipush (M : ab_M) (Q : ab_Po) (G : ab_Gt) : Prop := ∀ (pc : Nat) (L : List (Option ab_V)) (st : List ab_V) (S : ab_S) (k : Nat) (n : Int) (v : Int32), decode (ab_cc M) pc = .ok (.bipush n, 2) → (Int8.ofInt n).toInt32 = v → G (pc + 2) L (.inl v :: st) S k → G pc L st S k
def ab_c_sipush (M : ab_M) (Q : ab_Po) (G : ab_Gt) : Prop := ∀ (pc : Nat) (L : List (Option ab_V)) (st : List ab_V) (S : ab_S) (k : Nat) (n : Int) (v : Int32), decode (ab_cc M) pc = .ok (.sipush n, 3) → (Int16.ofInt n).toInt32 = v → G (pc + 3) L (.inl v :: st) S k → G pc L st S k
def ab_c_ldc_w (M : ab_M) (Q : ab_Po) (G : ab_Gt) : Prop := ∀ (pc : Nat) (L : List (Option ab_V)) (st : List ab_V) (S : ab_S) (k : Nat) (i : Nat) (v : Int32), decode (ab_cc M) pc = .ok (.ldc_w i, 3) → (i, v) ∈ ab_kn M → G (pc + 3) L (.inl v :: st) S k → G pc L st S k
def ab_c_iadd (M : ab_M) (Q : ab_Po) (G : ab_Gt) : Prop := ∀ (pc : Nat) (L : List (Option ab_V)) (st : List ab_V) (S : ab_S) (k : Nat) (x y : Int32), decode (ab_cc M) pc = .ok (.iadd, 1) → G (pc + 1) L (.inl (x + y) :: st) S k → G pc L (.inl y :: .inl x :: st) S k
def ab_c_isub (M : ab_M) (Q : ab_Po) (G : ab_Gt) : Prop := ∀ (pc : Nat) (L : List (Option ab_V)) (st : List ab_V) (S : ab_S) (k : Nat) (x y : Int32), decode (ab_cc M) pc = .ok (.isub, 1) → G (pc + 1) L (.inl (x - y) :: st) S k → G pc L (.inl y :: .inl x :: st) S k
def ab_c_imul (M : ab_M) (Q : ab_Po) (G : ab_Gt) : Prop := ∀ (pc : Nat) (L : List (Option ab_V)) (st : List ab_V) (S : ab_S) (k : Nat) (x y : Int32), decode (ab_cc M) pc = .ok (.imul, 1) → G (pc + 1) L (.inl (x * y) :: st) S k → G pc L (.inl y :: .inl x :: st) S k
def ab_c_iand (M : ab_M) (Q : ab_Po) (G : ab_Gt) : Prop := ∀ (pc : Nat) (L : List (Option ab_V)) (st : List ab_V) (S : ab_S) (k : Nat) (x y : Int32), decode (ab_cc M) pc = .ok (.iand, 1) → G (pc + 1) L (.inl (x &&& y) :: st) S k → G pc L (.inl y :: .inl x :: st) S k
def ab_c_ior (M : ab_M) (Q : ab_Po) (G : ab_Gt) : Prop := ∀ (pc : Nat) (L : List (Option ab_V)) (st : List ab_V) (S : ab_S) (k : Nat) (x y : Int32), decode (ab_cc M) pc = .ok (.ior, 1) → G (pc + 1) L (.inl (x ||| y) :: st) S k → G pc L (.inl y :: .inl x :: st) S k
def ab_c_ishl (M : ab_M) (Q : ab_Po) (G : ab_Gt) : Prop := ∀ (pc : Nat) (L : List (Option ab_V)) (st : List ab_V) (S : ab_S) (k : Nat) (x y : Int32), decode (ab_cc M) pc = .ok (.ishl, 1) → G (pc + 1) L (.inl (x <<< (y &&& 31)) :: st) S k → G pc L (.inl y :: .inl x :: st) S k
def ab_c_ishr (M : ab_M) (Q : ab_Po) (G : ab_Gt) : Prop := ∀ (pc : Nat) (L : List (Option ab_V)) (st : List ab_V) (S : ab_S) (k : Nat) (x y : Int32), decode (ab_cc M) pc = .ok (.ishr, 1) → G (pc + 1) L (.inl (x >>> (y &&& 31)) :: st) S k → G pc L (.inl y :: .inl x :: st) S k
def ab_c_iushr (M : ab_M) (Q : ab_Po) (G : ab_Gt) : Prop := ∀ (pc : Nat) (L : List (Option ab_V)) (st : List ab_V) (S : ab_S) (k : Nat) (x y : Int32), decode (ab_cc M) pc = .ok (.iushr, 1) → G (pc + 1) L (.inl ((x.toUInt32 >>> (y.toUInt32 &&& Int32.toUInt32 31)).toInt32) :: st) S k → G pc L (.inl y :: .inl x :: st) S k
def ab_c_dup (M : ab_M) (Q : ab_Po) (G : ab_Gt) : Prop := ∀ (pc : Nat) (L : List (Option ab_V)) (st : List ab_V) (S : ab_S) (k : Nat) (v : ab_V), decode (ab_cc M) pc = .ok (.dup, 1) → G (pc + 1) L (v :: v :: st) S k → G pc L (v :: st) S k
def ab_c_pop (M : ab_M) (Q : ab_Po) (G : ab_Gt) : Prop := ∀ (pc : Nat) (L : List (Option ab_V)) (st : List ab_V) (S : ab_S) (k : Nat) (v : ab_V), decode (ab_cc M) pc = .ok (.pop, 1) → G (pc + 1) L st S k → G pc L (v :: st) S k
def ab_c_if_eq (M : ab_M) (Q : ab_Po) (G : ab_Gt) : Prop := ∀ (pc : Nat) (L : List (Option ab_V)) (st : List ab_V) (S : ab_S) (k : Nat) (off : Int) (tgt : Nat) (x : Int32), decode (ab_cc M) pc = .ok (.ifCond .eq off, 3) → (pc : Int) + off = (tgt : Int) → (x = 0 → G tgt L st S k) → (¬ x = 0 → G (pc + 3) L st S k) → G pc L (.inl x :: st) S k
def ab_c_icmp_eq (M : ab_M) (Q : ab_Po) (G : ab_Gt) : Prop := ∀ (pc : Nat) (L : List (Option ab_V)) (st : List ab_V) (S : ab_S) (k : Nat) (off : Int) (tgt : Nat) (x y : Int32), decode (ab_cc M) pc = .ok (.if_icmp .eq off, 3) → (pc : Int) + off = (tgt : Int) → (x = y → G tgt L st S k) → (¬ x = y → G (pc + 3) L st S k) → G pc L (.inl y :: .inl x :: st) S k
def ab_c_if_ne (M : ab_M) (Q : ab_Po) (G : ab_Gt) : Prop := ∀ (pc : Nat) (L : List (Option ab_V)) (st : List ab_V) (S : ab_S) (k : Nat) (off : Int) (tgt : Nat) (x : Int32), decode (ab_cc M) pc = .ok (.ifCond .ne off, 3) → (pc : Int) + off = (tgt : Int) → (¬ x = 0 → G tgt L st S k) → (x = 0 → G (pc + 3) L st S k) → G pc L (.inl x :: st) S k
def ab_c_icmp_ne (M : ab_M) (Q : ab_Po) (G : ab_Gt) : Prop := ∀ (pc : Nat) (L : List (Option ab_V)) (st : List ab_V) (S : ab_S) (k : Nat) (off : Int) (tgt : Nat) (x y : Int32), decode (ab_cc M) pc = .ok (.if_icmp .ne off, 3) → (pc : Int) + off = (tgt : Int) → (¬ x = y → G tgt L st S k) → (x = y → G (pc + 3) L st S k) → G pc L (.inl y :: .inl x :: st) S k
def ab_c_if_lt (M : ab_M) (Q : ab_Po) (G : ab_Gt) : Prop := ∀ (pc : Nat) (L : List (Option ab_V)) (st : List ab_V) (S : ab_S) (k : Nat) (off : Int) (tgt : Nat) (x : Int32), decode (ab_cc M) pc = .ok (.ifCond .lt off, 3) → (pc : Int) + off = (tgt : Int) → (x < 0 → G tgt L st S k) → (¬ x < 0 → G (pc + 3) L st S k) → G pc L (.inl x :: st) S k
def ab_c_icmp_lt (M : ab_M) (Q : ab_Po) (G : ab_Gt) : Prop := ∀ (pc : Nat) (L : List (Option ab_V)) (st : List ab_V) (S : ab_S) (k : Nat) (off : Int) (tgt : Nat) (x y : Int32), decode (ab_cc M) pc = .ok (.if_icmp .lt off, 3) → (pc : Int) + off = (tgt : Int) → (x < y → G tgt L st S k) → (¬ x < y → G (pc + 3) L st S k) → G pc L (.inl y :: .inl x :: st) S k
def ab_c_if_ge (M : ab_M) (Q : ab_Po) (G : ab_Gt) : Prop := ∀ (pc : Nat) (L : List (Option ab_V)) (st : List ab_V) (S : ab_S) (k : Nat) (off : Int) (tgt : Nat) (x : Int32), decode (ab_cc M) pc = .ok (.ifCond .ge off, 3) → (pc : Int) + off = (tgt : Int) → (0 ≤ x → G tgt L st S k) → (¬ 0 ≤ x → G (pc + 3) L st S k) → G pc L (.inl x :: st) S k
def ab_c_icmp_ge (M : ab_M) (Q : ab_Po) (G : ab_Gt) : Prop := ∀ (pc : Nat) (L : List (Option ab_V)) (st : List ab_V) (S : ab_S) (k : Nat) (off : Int) (tgt : Nat) (x y : Int32), decode (ab_cc M) pc = .ok (.if_icmp .ge off, 3) → (pc : Int) + off = (tgt : Int) → (y ≤ x → G tgt L st S k) → (¬ y ≤ x → G (pc + 3) L st S k) → G pc L (.inl y :: .inl x :: st) S k
def ab_c_if_gt (M : ab_M) (Q : ab_Po) (G : ab_Gt) : Prop := ∀ (pc : Nat) (L : List (Option ab_V)) (st : List ab_V) (S : ab_S) (k : Nat) (off : Int) (tgt : Nat) (x : Int32), decode (ab_cc M) pc = .ok (.ifCond .gt off, 3) → (pc : Int) + off = (tgt : Int) → (0 < x → G tgt L st S k) → (¬ 0 < x → G (pc + 3) L st S k) → G pc L (.inl x :: st) S k
def ab_c_icmp_gt (M : ab_M) (Q : ab_Po) (G : ab_Gt) : Prop := ∀ (pc : Nat) (L : List (Option ab_V)) (st : List ab_V) (S : ab_S) (k : Nat) (off : Int) (tgt : Nat) (x y : Int32), decode (ab_cc M) pc = .ok (.if_icmp .gt off, 3) → (pc : Int) + off = (tgt : Int) → (y < x → G tgt L st S k) → (¬ y < x → G (pc + 3) L st S k) → G pc L (.inl y :: .inl x :: st) S k
def ab_c_if_le (M : ab_M) (Q : ab_Po) (G : ab_Gt) : Prop := ∀ (pc : Nat) (L : List (Option ab_V)) (st : List ab_V) (S : ab_S) (k : Nat) (off : Int) (tgt : Nat) (x : Int32), decode (ab_cc M) pc = .ok (.ifCond .le off, 3) → (pc : Int) + off = (tgt : Int) → (x ≤ 0 → G tgt L st S k) → (¬ x ≤ 0 → G (pc + 3) L st S k) → G pc L (.inl x :: st) S k
def ab_c_icmp_le (M : ab_M) (Q : ab_Po) (G : ab_Gt) : Prop := ∀ (pc : Nat) (L : List (Option ab_V)) (st : List ab_V) (S : ab_S) (k : Nat) (off : Int) (tgt : Nat) (x y : Int32), decode (ab_cc M) pc = .ok (.if_icmp .le off, 3) → (pc : Int) + off = (tgt : Int) → (x ≤ y → G tgt L st S k) → (¬ x ≤ y → G (pc + 3) L st S k) → G pc L (.inl y :: .inl x :: st) S k
def ab_c_goto (M : ab_M) (Q : ab_Po) (G : ab_Gt) : Prop := ∀ (pc : Nat) (L : List (Option ab_V)) (st : List ab_V) (S : ab_S) (k : Nat) (off : Int) (tgt : Nat), decode (ab_cc M) pc = .ok (.goto off, 3) → (pc : Int) + off = (tgt : Int) → G tgt L st S k → G pc L st S k
def ab_c_swO (M : ab_M) (Q : ab_Po) (G : ab_Gt) : Prop := ∀ (pc : Nat) (L : List (Option ab_V)) (st : List ab_V) (S : ab_S) (k : Nat) (dflt lo hi : Int) (offs : Array Int) (len : Nat) (x : Int32) (tgt : Nat), decode (ab_cc M) pc = .ok (.tableswitch dflt lo hi offs, len) → (x.toInt < lo ∨ hi < x.toInt) → (pc : Int) + dflt = (tgt : Int) → G tgt L st S k → G pc L (.inl x :: st) S k
def ab_c_swI (M : ab_M) (Q : ab_Po) (G : ab_Gt) : Prop := ∀ (pc : Nat) (L : List (Option ab_V)) (st : List ab_V) (S : ab_S) (k : Nat) (dflt lo hi : Int) (offs : Array Int) (len : Nat) (x : Int32) (off : Int) (tgt : Nat), decode (ab_cc M) pc = .ok (.tableswitch dflt lo hi offs, len) → ¬ x.toInt < lo → ¬ hi < x.toInt → offs[(x.toInt - lo).toNat]? = some off → (pc : Int) + off = (tgt : Int) → G tgt L st S k → G pc L (.inl x :: st) S k
def ab_c_ireturn (M : ab_M) (Q : ab_Po) (G : ab_Gt) : Prop := ∀ (pc : Nat) (L : List (Option ab_V)) (S : ab_S) (k : Nat) (x : Int32), decode (ab_cc M) pc = .ok (.ireturn, 1) → (ab_rk M = 1 ∨ (ab_rk M = 2 ∧ (x = 0 ∨ x = 1))) → k ≤ ab_K M → Q (.inl (some x)) S → G pc L [.inl x] S k
def ab_c_return_ (M : ab_M) (Q : ab_Po) (G : ab_Gt) : Prop := ∀ (pc : Nat) (L : List (Option ab_V)) (S : ab_S) (k : Nat), decode (ab_cc M) pc = .ok (.return_, 1) → ab_rk M = 0 → k ≤ ab_K M → Q (.inl none) S → G pc L [] S k
def ab_c_getfield (M : ab_M) (Q : ab_Po) (G : ab_Gt) : Prop := ∀ (pc : Nat) (L : List (Option ab_V)) (st : List ab_V) (S : ab_S) (k : Nat) (idx κ f i : Nat), decode (ab_cc M) pc = .ok (.getfield idx, 3) → (idx, κ, f) ∈ ab_fl M → G (pc + 3) L (ab_fv κ f i S :: st) S k → G pc L (.inr (κ, i) :: st) S k
def ab_c_putfield (M : ab_M) (Q : ab_Po) (G : ab_Gt) : Prop := ∀ (pc : Nat) (L : List (Option ab_V)) (st : List ab_V) (S : ab_S) (k : Nat) (idx κ f i : Nat) (x : Int32), decode (ab_cc M) pc = .ok (.putfield idx, 3) → (idx, κ, f) ∈ ab_pl M → G (pc + 3) L st (ab_su S κ i f x) k → G pc L (.inl x :: .inr (κ, i) :: st) S k
def ab_c_iaload (M : ab_M) (Q : ab_Po) (G : ab_Gt) : Prop := ∀ (pc : Nat) (L : List (Option ab_V)) (st : List ab_V) (S : ab_S) (k : Nat) (κ i n : Nat) (j : Int32), decode (ab_cc M) pc = .ok (.iaload, 1) → ab_ar κ = some (0, n) → vp_in j n → G (pc + 1) L (.inl (S κ i j.toNatClampNeg) :: st) S k → G pc L (.inl j :: .inr (κ, i) :: st) S k
def ab_c_baload (M : ab_M) (Q : ab_Po) (G : ab_Gt) : Prop := ∀ (pc : Nat) (L : List (Option ab_V)) (st : List ab_V) (S : ab_S) (k : Nat) (κ i n : Nat) (j : Int32), decode (ab_cc M) pc = .ok (.baload, 1) → ab_ar κ = some (1, n) → vp_in j n → G (pc + 1) L (.inl (S κ i j.toNatClampNeg) :: st) S k → G pc L (.inl j :: .inr (κ, i) :: st) S k
def ab_c_iastore (M : ab_M) (Q : ab_Po) (G : ab_Gt) : Prop := ∀ (pc : Nat) (L : List (Option ab_V)) (st : List ab_V) (S : ab_S) (k : Nat) (κ i n : Nat) (j x : Int32), decode (ab_cc M) pc = .ok (.iastore, 1) → ab_ar κ = some (0, n) → vp_in j n → G (pc + 1) L st (ab_su S κ i j.toNatClampNeg x) k → G pc L (.inl x :: .inl j :: .inr (κ, i) :: st) S k
def ab_c_bastore (M : ab_M) (Q : ab_Po) (G : ab_Gt) : Prop := ∀ (pc : Nat) (L : List (Option ab_V)) (st : List ab_V) (S : ab_S) (k : Nat) (κ i n : Nat) (j x : Int32), decode (ab_cc M) pc = .ok (.bastore, 1) → ab_ar κ = some (1, n) → vp_in j n → G (pc + 1) L st (ab_su S κ i j.toNatClampNeg (vp_nar .boolean x)) k → G pc L (.inl x :: .inl j :: .inr (κ, i) :: st) S k
def ab_c_aaload2 (M : ab_M) (Q : ab_Po) (G : ab_Gt) : Prop := ∀ (pc : Nat) (L : List (Option ab_V)) (st : List ab_V) (S : ab_S) (k : Nat) (κ i n : Nat) (j : Int32), decode (ab_cc M) pc = .ok (.aaload, 1) → ab_ar κ = some (2, n) → vp_in j n → G (pc + 1) L (.inr (ab_el κ j.toNatClampNeg) :: st) S k → G pc L (.inl j :: .inr (κ, i) :: st) S k
def ab_c_aaload3 (M : ab_M) (Q : ab_Po) (G : ab_Gt) : Prop := ∀ (pc : Nat) (L : List (Option ab_V)) (st : List ab_V) (S : ab_S) (k : Nat) (κ i n : Nat) (j : Int32), decode (ab_cc M) pc = .ok (.aaload, 1) → ab_ar κ = some (3, n) → vp_in j n → G (pc + 1) L (.inr (ab_el κ j.toNatClampNeg) :: st) S k → G pc L (.inl j :: .inr (κ, i) :: st) S k
def ab_c_alen (M : ab_M) (Q : ab_Po) (G : ab_Gt) : Prop := ∀ (pc : Nat) (L : List (Option ab_V)) (st : List ab_V) (S : ab_S) (k : Nat) (κ i n : Nat) (v : Int32), decode (ab_cc M) pc = .ok (.arraylength, 1) → ab_ar κ = some (0, n) → Int32.ofNat n = v → G (pc + 1) L (.inl v :: st) S k → G pc L (.inr (κ, i) :: st) S k
def ab_c_invv (M : ab_M) (Q : ab_Po) (G : ab_Gt) : Prop := ∀ (pc : Nat) (L : List (Option ab_V)) (as rest : List ab_V) (S : ab_S) (k idx rc n ri kc : Nat) (τ : ab_TR) (o : ab_Ob), decode (ab_cc M) pc = .ok (.invokevirtual idx, 3) → ab_cv M idx = some (rc, n, ri, kc, τ) → as.length = n → ab_ar o.1 = none → ab_ci o.1 = rc → rest.length ≤ 8 → k + kc ≤ ab_K M → τ (.inr o :: as) S (ab_back Q G (pc + 3) L rest (k + kc)) → G pc L (as.reverse ++ .inr o :: rest) S k
def ab_c_invs (M : ab_M) (Q : ab_Po) (G : ab_Gt) : Prop := ∀ (pc : Nat) (L : List (Option ab_V)) (as rest : List ab_V) (S : ab_S) (k idx rc n ri kc : Nat) (τ : ab_TR), decode (ab_cc M) pc = .ok (.invokestatic idx, 3) → ab_cs M idx = some (rc, n, ri, kc, τ) → as.length = n → rest.length ≤ 8 → k + kc ≤ ab_K M → τ as S (ab_back Q G (pc + 3) L rest (k + kc)) → G pc L (as.reverse ++ rest) S k
def ab_c_invn (M : ab_M) (Q : ab_Po) (G : ab_Gt) : Prop := ∀ (pc : Nat) (L : List (Option ab_V)) (as rest : List ab_V) (S : ab_S) (k idx rc n ri kc : Nat) (τ : ab_TR), decode (ab_cc M) pc = .ok (.invokestatic idx, 3) → ab_cn M idx = some (rc, n, ri, kc, τ) → as.length = n → rest.length ≤ 8 → k + kc ≤ ab_K M → τ as S (ab_back (fun _ _ => False) G (pc + 3) L rest (k + kc)) → G pc L (as.reverse ++ rest) S k
def ab_c_min (M : ab_M) (Q : ab_Po) (G : ab_Gt) : Prop := ∀ (pc : Nat) (L : List (Option ab_V)) (st : List ab_V) (S : ab_S) (k : Nat) (idx : Nat) (x y : Int32), decode (ab_cc M) pc = .ok (.invokestatic idx, 3) → idx ∈ ab_mn M → st.length ≤ 8 → k ≤ ab_K M → G (pc + 3) L (.inl (if y < x then y else x) :: st) S k → G pc L (.inl y :: .inl x :: st) S k
def ab_c_acopy (M : ab_M) (Q : ab_Po) (G : ab_Gt) : Prop := ∀ (pc : Nat) (L : List (Option ab_V)) (st : List ab_V) (S : ab_S) (k : Nat) (idx κs is κd id ns nd : Nat) (sp dp n : Int32), decode (ab_cc M) pc = .ok (.invokestatic idx, 3) → idx ∈ ab_ac M → ab_ar κs = some (0, ns) → ab_ar κd = some (0, nd) → ¬ sp < 0 → ¬ dp < 0 → ¬ n < 0 → sp.toNatClampNeg + n.toNatClampNeg ≤ ns → dp.toNatClampNeg + n.toNatClampNeg ≤ nd → st.length ≤ 8 → G (pc + 3) L st (ab_sr S κd id (va_cpy (S κs is) (S κd id) sp.toNatClampNeg dp.toNatClampNeg n.toNatClampNeg)) k → G pc L (.inl n :: .inl dp :: .inr (κd, id) :: .inl sp :: .inr (κs, is) :: st) S k
def ab_c_throw (M : ab_M) (Q : ab_Po) (G : ab_Gt) : Prop := ∀ (pc : Nat) (L : List (Option ab_V)) (st : List ab_V) (S : ab_S) (k : Nat) (E : Nat), ab_th M pc = some E → st.length ≤ 8 → k + 1 ≤ ab_K M → Q (.inr E) S → G pc L st S k
def ab_c_forget (M : ab_M) (Q : ab_Po) (G : ab_Gt) : Prop := ∀ (pc : Nat) (L : List (Option ab_V)) (st : List ab_V) (S : ab_S) (k : Nat) (i : Nat), G pc (L.set i none) st S k → G pc L st S k
/-- a predicate of the machine's states from which each instruction goes on -/
def ab_Cl (M : ab_M) (Q : ab_Po) (G : ab_Gt) : Prop := ab_c_iload_n M Q G ∧ ab_c_iload M Q G ∧ ab_c_aload_n M Q G ∧ ab_c_aload M Q G ∧ ab_c_istore_n M Q G ∧ ab_c_istore M Q G ∧ ab_c_astore_n M Q G ∧ ab_c_astore M Q G ∧ ab_c_iinc M Q G ∧ ab_c_iconst M Q G ∧ ab_c_bipush M Q G ∧ ab_c_sipush M Q G ∧ ab_c_ldc_w M Q G ∧ ab_c_iadd M Q G ∧ ab_c_isub M Q G ∧ ab_c_imul M Q G ∧ ab_c_iand M Q G ∧ ab_c_ior M Q G ∧ ab_c_ishl M Q G ∧ ab_c_ishr M Q G ∧ ab_c_iushr M Q G ∧ ab_c_dup M Q G ∧ ab_c_pop M Q G ∧ ab_c_if_eq M Q G ∧ ab_c_icmp_eq M Q G ∧ ab_c_if_ne M Q G ∧ ab_c_icmp_ne M Q G ∧ ab_c_if_lt M Q G ∧ ab_c_icmp_lt M Q G ∧ ab_c_if_ge M Q G ∧ ab_c_icmp_ge M Q G ∧ ab_c_if_gt M Q G ∧ ab_c_icmp_gt M Q G ∧ ab_c_if_le M Q G ∧ ab_c_icmp_le M Q G ∧ ab_c_goto M Q G ∧ ab_c_swO M Q G ∧ ab_c_swI M Q G ∧ ab_c_ireturn M Q G ∧ ab_c_return_ M Q G ∧ ab_c_getfield M Q G ∧ ab_c_putfield M Q G ∧ ab_c_iaload M Q G ∧ ab_c_baload M Q G ∧ ab_c_iastore M Q G ∧ ab_c_bastore M Q G ∧ ab_c_aaload2 M Q G ∧ ab_c_aaload3 M Q G ∧ ab_c_alen M Q G ∧ ab_c_invv M Q G ∧ ab_c_invs M Q G ∧ ab_c_invn M Q G ∧ ab_c_min M Q G ∧ ab_c_acopy M Q G ∧ ab_c_throw M Q G ∧ ab_c_forget M Q G
theorem ab_iload_n' {M : ab_M} {Q : ab_Po} {G : ab_Gt} (hG : ab_Cl M Q G) : ab_c_iload_n M Q G := hG.1
theorem ab_iload' {M : ab_M} {Q : ab_Po} {G : ab_Gt} (hG : ab_Cl M Q G) : ab_c_iload M Q G := hG.2.1
theorem ab_aload_n' {M : ab_M} {Q : ab_Po} {G : ab_Gt} (hG : ab_Cl M Q G) : ab_c_aload_n M Q G := hG.2.2.1
theorem ab_aload' {M : ab_M} {Q : ab_Po} {G : ab_Gt} (hG : ab_Cl M Q G) : ab_c_aload M Q G := hG.2.2.2.1
theorem ab_istore_n' {M : ab_M} {Q : ab_Po} {G : ab_Gt} (hG : ab_Cl M Q G) : ab_c_istore_n M Q G := hG.2.2.2.2.1
theorem ab_istore' {M : ab_M} {Q : ab_Po} {G : ab_Gt} (hG : ab_Cl M Q G) : ab_c_istore M Q G := hG.2.2.2.2.2.1
theorem ab_astore_n' {M : ab_M} {Q : ab_Po} {G : ab_Gt} (hG : ab_Cl M Q G) : ab_c_astore_n M Q G := hG.2.2.2.2.2.2.1
theorem ab_astore' {M : ab_M} {Q : ab_Po} {G : ab_Gt} (hG : ab_Cl M Q G) : ab_c_astore M Q G := hG.2.2.2.2.2.2.2.1
theorem ab_iinc' {M : ab_M} {Q : ab_Po} {G : ab_Gt} (hG : ab_Cl M Q G) : ab_c_iinc M Q G := hG.2.2.2.2.2.2.2.2.1
theorem ab_iconst' {M : ab_M} {Q : ab_Po} {G : ab_Gt} (hG : ab_Cl M Q G) : ab_c_iconst M Q G := hG.2.2.2.2.2.2.2.2.2.1
theorem ab_bipush' {M : ab_M} {Q : ab_Po} {G : ab_Gt} (hG : ab_Cl M Q G) : ab_c_bipush M Q G := hG.2.2.2.2.2.2.2.2.2.2.1
theorem ab_sipush' {M : ab_M} {Q : ab_Po} {G : ab_Gt} (hG : ab_Cl M Q G) : ab_c_sipush M Q G := hG.2.2.2.2.2.2.2.2.2.2.2.1
theorem ab_ldc_w' {M : ab_M} {Q : ab_Po} {G : ab_Gt} (hG : ab_Cl M Q G) : ab_c_ldc_w M Q G := hG.2.2.2.2.2.2.2.2.2.2.2.2.1
theorem ab_iadd' {M : ab_M} {Q : ab_Po} {G : ab_Gt} (hG : ab_Cl M Q G) : ab_c_iadd M Q G := hG.2.2.2.2.2.2.2.2.2.2.2.2.2.1
theorem ab_isub' {M : ab_M} {Q : ab_Po} {G : ab_Gt} (hG : ab_Cl M Q G) : ab_c_isub M Q G := hG.2.2.2.2.2.2.2.2.2.2.2.2.2.2.1
theorem ab_imul' {M : ab_M} {Q : ab_Po} {G : ab_Gt} (hG : ab_Cl M Q G) : ab_c_imul M Q G := hG.2.2.2.2.2.2.2.2.2.2.2.2.2.2.2.1
theorem ab_iand' {M : ab_M} {Q : ab_Po} {G : ab_Gt} (hG : ab_Cl M Q G) : ab_c_iand M Q G := hG.2.2.2.2.2.2.2.2.2.2.2.2.2.2.2.2.1
theorem ab_ior' {M : ab_M} {Q : ab_Po} {G : ab_Gt} (hG : ab_Cl M Q G) : ab_c_ior M Q G := hG.2.2.2.2.2.2.2.2.2.2.2.2.2.2.2.2.2.1
theorem ab_ishl' {M : ab_M} {Q : ab_Po} {G : ab_Gt} (hG : ab_Cl M Q G) : ab_c_ishl M Q G := hG.2.2.2.2.2.2.2.2.2.2.2.2.2.2.2.2.2.2.1
theorem ab_ishr' {M : ab_M} {Q : ab_Po} {G : ab_Gt} (hG : ab_Cl M Q G) : ab_c_ishr M Q G := hG.2.2.2.2.2.2.2.2.2.2.2.2.2.2.2.2.2.2.2.1
theorem ab_iushr' {M : ab_M} {Q : ab_Po} {G : ab_Gt} (hG : ab_Cl M Q G) : ab_c_iushr M Q G := hG.2.2.2.2.2.2.2.2.2.2.2.2.2.2.2.2.2.2.2.2.1
theorem ab_dup' {M : ab_M} {Q : ab_Po} {G : ab_Gt} (hG : ab_Cl M Q G) : ab_c_dup M Q G := hG.2.2.2.2.2.2.2.2.2.2.2.2.2.2.2.2.2.2.2.2.2.1
theorem ab_pop' {M : ab_M} {Q : ab_Po} {G : ab_Gt} (hG : ab_Cl M Q G) : ab_c_pop M Q G := hG.2.2.2.2.2.2.2.2.2.2.2.2.2.2.2.2.2.2.2.2.2.2.1
theorem ab_if_eq' {M : ab_M} {Q : ab_Po} {G : ab_Gt} (hG : ab_Cl M Q G) : ab_c_if_eq M Q G := hG.2.2.2.2.2.2.2.2.2.2.2.2.2.2.2.2.2.2.2.2.2.2.2.1
theorem ab_icmp_eq' {M : ab_M} {Q : ab_Po} {G : ab_Gt} (hG : ab_Cl M Q G) : ab_c_icmp_eq M Q G := hG.2.2.2.2.2.2.2.2.2.2.2.2.2.2.2.2.2.2.2.2.2.2.2.2.1
theorem ab_if_ne' {M : ab_M} {Q : ab_Po} {G : ab_Gt} (hG : ab_Cl M Q G) : ab_c_if_ne M Q G := hG.2.2.2.2.2.2.2.2.2.2.2.2.2.2.2.2.2.2.2.2.2.2.2.2.2.1
theorem ab_icmp_ne' {M : ab_M} {Q : ab_Po} {G : ab_Gt} (hG : ab_Cl M Q G) : ab_c_icmp_ne M Q G := hG.2.2.2.2.2.2.2.2.2.2.2.2.2.2.2.2.2.2.2.2.2.2.2.2.2.2.1
theorem ab_if_lt' {M : ab_M} {Q : ab_Po} {G : ab_Gt} (hG : ab_Cl M Q G) : ab_c_if_lt M Q G := hG.2.2.2.2.2.2.2.2.2.2.2.2.2.2.2.2.2.2.2.2.2.2.2.2.2.2.2.1
theorem ab_icmp_lt' {M : ab_M} {Q : ab_Po} {G : ab_Gt} (hG : ab_Cl M Q G) : ab_c_icmp_lt M Q G := hG.2.2.2.2.2.2.2.2.2.2.2.2.2.2.2.2.2.2.2.2.2.2.2.2.2.2.2.2.1
theorem ab_if_ge' {M : ab_M} {Q : ab_Po} {G : ab_Gt} (hG : ab_Cl M Q G) : ab_c_if_ge M Q G := hG.2.2.2.2.2.2.2.2.2.2.2.2.2.2.2.2.2.2.2.2.2.2.2.2.2.2.2.2.2.1
theorem ab_icmp_ge' {M : ab_M} {Q : ab_Po} {G : ab_Gt} (hG : ab_Cl M Q G) : ab_c_icmp_ge M Q G := hG.2.2.2.2.2.2.2.2.2.2.2.2.2.2.2.2.2.2.2.2.2.2.2.2.2.2.2.2.2.2.1
theorem ab_if_gt' {M : ab_M} {Q : ab_Po} {G : ab_Gt} (hG : ab_Cl M Q G) : ab_c_if_gt M Q G := hG.2.2.2.2.2.2.2.2.2.2.2.2.2.2.2.2.2.2.2.2.2.2.2.2.2.2.2.2.2.2.2.1
theorem ab_icmp_gt' {M : ab_M} {Q : ab_Po} {G : ab_Gt} (hG : ab_Cl M Q G) : ab_c_icmp_gt M Q G := hG.2.2.2.2.2.2.2.2.2.2.2.2.2.2.2.2.2.2.2.2.2.2.2.2.2.2.2.2.2.2.2.2.1
theorem ab_if_le' {M : ab_M} {Q : ab_Po} {G : ab_Gt} (hG : ab_Cl M Q G) : ab_c_if_le M Q G := hG.2.2.2.2.2.2.2.2.2.2.2.2.2.2.2.2.2.2.2.2.2.2.2.2.2.2.2.2.2.2.2.2.2.1
theorem ab_icmp_le' {M : ab_M} {Q : ab_Po} {G : ab_Gt} (hG : ab_Cl M Q G) : ab_c_icmp_le M Q G := hG.2.2.2.2.2.2.2.2.2.2.2.2.2.2.2.2.2.2.2.2.2.2.2.2.2.2.2.2.2.2.2.2.2.2.1
theorem ab_goto' {M : ab_M} {Q : ab_Po} {G : ab_Gt} (hG : ab_Cl M Q G) : ab_c_goto M Q G := hG.2.2.2.2.2.2.2.2.2.2.2.2.2.2.2.2.2.2.2.2.2.2.2.2.2.2.2.2.2.2.2.2.2.2.2.1
theorem ab_swO' {M : ab_M} {Q : ab_Po} {G : ab_Gt} (hG : ab_Cl M Q G) : ab_c_swO M Q G := hG.2.2.2.2.2.2.2.2.2.2.2.2.2.2.2.2.2.2.2.2.2.2.2.2.2.2.2.2.2.2.2.2.2.2.2.2.1
theorem ab_swI' {M : ab_M} {Q : ab_Po} {G : ab_Gt} (hG : ab_Cl M Q G) : ab_c_swI M Q G := hG.2.2.2.2.2.2.2.2.2.2.2.2.2.2.2.2.2.2.2.2.2.2.2.2.2.2.2.2.2.2.2.2.2.2.2.2.2.1
theorem ab_ireturn' {M : ab_M} {Q : ab_Po} {G : ab_Gt} (hG : ab_Cl M Q G) : ab_c_ireturn M Q G := hG.2.2.2.2.2.2.2.2.2.2.2.2.2.2.2.2.2.2.2.2.2.2.2.2.2.2.2.2.2.2.2.2.2.2.2.2.2.2.1
theorem ab_return_' {M : ab_M} {Q : ab_Po} {G : ab_Gt} (hG : ab_Cl M Q G) : ab_c_return_ M Q G := hG.2.2.2.2.2.2.2.2.2.2.2.2.2.2.2.2.2.2.2.2.2.2.2.2.2.2.2.2.2.2.2.2.2.2.2.2.2.2.2.1
theorem ab_getfield' {M : ab_M} {Q : ab_Po} {G : ab_Gt} (hG : ab_Cl M Q G) : ab_c_getfield M Q G := hG.2.2.2.2.2.2.2.2.2.2.2.2.2.2.2.2.2.2.2.2.2.2.2.2.2.2.2.2.2.2.2.2.2.2.2.2.2.2.2.2.1
theorem ab_putfield' {M : ab_M} {Q : ab_Po} {G : ab_Gt} (hG : ab_Cl M Q G) : ab_c_putfield M Q G := hG.2.2.2.2.2.2.2.2.2.2.2.2.2.2.2.2.2.2.2.2.2.2.2.2.2.2.2.2.2.2.2.2.2.2.2.2.2.2.2.2.2.1
theorem ab_iaload' {M : ab_M} {Q : ab_Po} {G : ab_Gt} (hG : ab_Cl M Q G) : ab_c_iaload M Q G := hG.2.2.2.2.2.2.2.2.2.2.2.2.2.2.2.2.2.2.2.2.2.2.2.2.2.2.2.2.2.2.2.2.2.2.2.2.2.2.2.2.2.2.1
theorem ab_baload' {M : ab_M} {Q : ab_Po} {G : ab_Gt} (hG : ab_Cl M Q G) : ab_c_baload M Q G := hG.2.2.2.2.2.2.2.2.2.2.2.2.2.2.2.2.2.2.2.2.2.2.2.2.2.2.2.2.2.2.2.2.2.2.2.2.2.2.2.2.2.2.2.1
theorem ab_iastore' {M : ab_M} {Q : ab_Po} {G : ab_Gt} (hG : ab_Cl M Q G) : ab_c_iastore M Q G := hG.2.2.2.2.2.2.2.2.2.2.2.2.2.2.2.2.2.2.2.2.2.2.2.2.2.2.2.2.2.2.2.2.2.2.2.2.2.2.2.2.2.2.2.2.1
theorem ab_bastore' {M : ab_M} {Q : ab_Po} {G : ab_Gt} (hG : ab_Cl M Q G) : ab_c_bastore M Q G := hG.2.2.2.2.2.2.2.2.2.2.2.2.2.2.2.2.2.2.2.2.2.2.2.2.2.2.2.2.2.2.2.2.2.2.2.2.2.2.2.2.2.2.2.2.2.1
theorem ab_aaload2' {M : ab_M} {Q : ab_Po} {G : ab_Gt} (hG : ab_Cl M Q G) : ab_c_aaload2 M Q G := hG.2.2.2.2.2.2.2.2.2.2.2.2.2.2.2.2.2.2.2.2.2.2.2.2.2.2.2.2.2.2.2.2.2.2.2.2.2.2.2.2.2.2.2.2.2.2.1
theorem ab_aaload3' {M : ab_M} {Q : ab_Po} {G : ab_Gt} (hG : ab_Cl M Q G) : ab_c_aaload3 M Q G := hG.2.2.2.2.2.2.2.2.2.2.2.2.2.2.2.2.2.2.2.2.2.2.2.2.2.2.2.2.2.2.2.2.2.2.2.2.2.2.2.2.2.2.2.2.2.2.2.1
theorem ab_alen' {M : ab_M} {Q : ab_Po} {G : ab_Gt} (hG : ab_Cl M Q G) : ab_c_alen M Q G := hG.2.2.2.2.2.2.2.2.2.2.2.2.2.2.2.2.2.2.2.2.2.2.2.2.2.2.2.2.2.2.2.2.2.2.2.2.2.2.2.2.2.2.2.2.2.2.2.2.1
theorem ab_invv' {M : ab_M} {Q : ab_Po} {G : ab_Gt} (hG : ab_Cl M Q G) : ab_c_invv M Q G := hG.2.2.2.2.2.2.2.2.2.2.2.2.2.2.2.2.2.2.2.2.2.2.2.2.2.2.2.2.2.2.2.2.2.2.2.2.2.2.2.2.2.2.2.2.2.2.2.2.2.1
theorem ab_invs' {M : ab_M} {Q : ab_Po} {G : ab_Gt} (hG : ab_Cl M Q G) : ab_c_invs M Q G := hG.2.2.2.2.2.2.2.2.2.2.2.2.2.2.2.2.2.2.2.2.2.2.2.2.2.2.2.2.2.2.2.2.2.2.2.2.2.2.2.2.2.2.2.2.2.2.2.2.2.2.1
theorem ab_invn' {M : ab_M} {Q : ab_Po} {G : ab_Gt} (hG : ab_Cl M Q G) : ab_c_invn M Q G := hG.2.2.2.2.2.2.2.2.2.2.2.2.2.2.2.2.2.2.2.2.2.2.2.2.2.2.2.2.2.2.2.2.2.2.2.2.2.2.2.2.2.2.2.2.2.2.2.2.2.2.2.1
theorem ab_min' {M : ab_M} {Q : ab_Po} {G : ab_Gt} (hG : ab_Cl M Q G) : ab_c_min M Q G := hG.2.2.2.2.2.2.2.2.2.2.2.2.2.2.2.2.2.2.2.2.2.2.2.2.2.2.2.2.2.2.2.2.2.2.2.2.2.2.2.2.2.2.2.2.2.2.2.2.2.2.2.2.1
theorem ab_acopy' {M : ab_M} {Q : ab_Po} {G : ab_Gt} (hG : ab_Cl M Q G) : ab_c_acopy M Q G := hG.2.2.2.2.2.2.2.2.2.2.2.2.2.2.2.2.2.2.2.2.2.2.2.2.2.2.2.2.2.2.2.2.2.2.2.2.2.2.2.2.2.2.2.2.2.2.2.2.2.2.2.2.2.1
theorem ab_throw' {M : ab_M} {Q : ab_Po} {G : ab_Gt} (hG : ab_Cl M Q G) : ab_c_throw M Q G := hG.2.2.2.2.2.2.2.2.2.2.2.2.2.2.2.2.2.2.2.2.2.2.2.2.2.2.2.2.2.2.2.2.2.2.2.2.2.2.2.2.2.2.2.2.2.2.2.2.2.2.2.2.2.2.1
theorem ab_forget' {M : ab_M} {Q : ab_Po} {G : ab_Gt} (hG : ab_Cl M Q G) : ab_c_forget M Q G := hG.2.2.2.2.2.2.2.2.2.2.2.2.2.2.2.2.2.2.2.2.2.2.2.2.2.2.2.2.2.2.2.2.2.2.2.2.2.2.2.2.2.2.2.2.2.2.2.2.2.2.2.2.2.2.2
theorem ab_gI {M : ab_M} {Q : ab_Po} {G : ab_Gt} (hG : ab_Cl M Q G) (pc : Nat) (L : List (Option ab_V)) (st : List ab_V) (S : ab_S) (k : Nat) (idx κ f i : Nat) (hd : decode (ab_cc M) pc = .ok (.getfield idx, 3)) (hm : (idx, κ, f) ∈ ab_fl M) (hr : ab_fr κ f i = none) (hk : G (pc + 3) L (.inl (S κ i f) :: st) S k) : G pc L (.inr (κ, i) :: st) S k :=
  ab_getfield' hG pc L st S k idx κ f i hd hm (by unfold ab_fv; rw [hr]; exact hk)
theorem ab_gR {M : ab_M} {Q : ab_Po} {G : ab_Gt} (hG : ab_Cl M Q G) (pc : Nat) (L : List (Option ab_V)) (st : List ab_V) (S : ab_S) (k : Nat) (idx κ f i : Nat) (o : ab_Ob) (hd : decode (ab_cc M) pc = .ok (.getfield idx, 3)) (hm : (idx, κ, f) ∈ ab_fl M) (hr : ab_fr κ f i = some o) (hk : G (pc + 3) L (.inr o :: st) S k) : G pc L (.inr (κ, i) :: st) S k :=
  ab_getfield' hG pc L st S k idx κ f i hd hm (by unfold ab_fv; rw [hr]; exact hk)
/-- what a method does: from its entry every such predicate holds -/
def ab_Sem (M : ab_M) (nL : Nat) : ab_TR := fun vs S Q => vs.length ≤ nL ∧ ∀ G : ab_Gt, ab_Cl M Q G → G 0 (vs.map some ++ List.replicate (nL - vs.length) none) [] S 0
