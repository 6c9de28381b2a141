/-! the small machine: the same instructions over a memory of numbered cells -/
abbrev nt_M : Type := (Nat × Nat) × (Nat → Nat) × (Nat → Nat) × (Nat → Nat → Int32) × (Nat → Nat → Int64) × (Nat → Nat → Option Nat)
abbrev nt_V : Type := List (Nat × Value)
abbrev nt_C : Type := Nat × nt_V × List Value × nt_M
abbrev nt_X : Type := Nat × (Nat → Int32)
def nt_n (M : nt_M) : Nat := M.1.1
def nt_z (M : nt_M) : Nat := M.1.2
def nt_k (M : nt_M) : Nat → Nat := M.2.1
def nt_l (M : nt_M) : Nat → Nat := M.2.2.1
def nt_I (M : nt_M) : Nat → Nat → Int32 := M.2.2.2.1
def nt_J (M : nt_M) : Nat → Nat → Int64 := M.2.2.2.2.1
def nt_R (M : nt_M) : Nat → Nat → Option Nat := M.2.2.2.2.2
def nt_u1 {α : Type} (f : Nat → α) (a : Nat) (v : α) : Nat → α := fun b => if b = a then v else f b
def nt_u {α : Type} (f : Nat → Nat → α) (a k : Nat) (v : α) : Nat → Nat → α := fun b j => if b = a then (if j = k then v else f b j) else f b j
def nt_sI (M : nt_M) (a k : Nat) (v : Int32) : nt_M := (M.1, M.2.1, M.2.2.1, nt_u M.2.2.2.1 a k v, M.2.2.2.2.1, M.2.2.2.2.2)
def nt_sJ (M : nt_M) (a k : Nat) (v : Int64) : nt_M := (M.1, M.2.1, M.2.2.1, M.2.2.2.1, nt_u M.2.2.2.2.1 a k v, M.2.2.2.2.2)
def nt_sR (M : nt_M) (a k : Nat) (v : Option Nat) : nt_M := (M.1, M.2.1, M.2.2.1, M.2.2.2.1, M.2.2.2.2.1, nt_u M.2.2.2.2.2 a k v)
/-- a row of ints is replaced -/
def nt_wI (M : nt_M) (a : Nat) (f : Nat → Int32) : nt_M := (M.1, M.2.1, M.2.2.1, nt_u1 M.2.2.2.1 a f, M.2.2.2.2.1, M.2.2.2.2.2)
/-- a new cell of a kind, with so many places; it takes so many slots -/
def nt_nw (M : nt_M) (kd len sl : Nat) : nt_M := ((M.1.1 + 1, M.1.2 + sl), nt_u1 M.2.1 M.1.1 kd, nt_u1 M.2.2.1 M.1.1 len, nt_u1 M.2.2.2.1 M.1.1 (fun _ => 0), nt_u1 M.2.2.2.2.1 M.1.1 (fun _ => 0), nt_u1 M.2.2.2.2.2 M.1.1 (fun _ => none))
def nt_lk : nt_V → Nat → Option Value
  | [], _ => none
  | q :: t, i => if q.1 = i then some q.2 else nt_lk t i
def nt_s1 (ls : nt_V) (i : Nat) (v : Value) : nt_V := (i, v) :: ls.filter (fun q => !(q.1 == i) && !(q.1 + 1 == i && q.2.category == 2))
def nt_s2 (ls : nt_V) (i : Nat) (v : Value) : nt_V := (i, v) :: ls.filter (fun q => !(q.1 == i) && (!(q.1 == i + 1) && !(q.1 + 1 == i && q.2.category == 2)))
def nt_rv : Option Nat → Value
  | none => .null
  | some a => .ref a
/-- the place of the script, and of the texts behind it -/
def nt_sp : Nat := 3000
/-- which text a place is -/
def nt_si (a : Nat) : Nat := a - nt_sp - 1
def nt_i1 (st : List Value) (k : Int32 → List Value → Option nt_C) : Option nt_C := match st with
  | .int x :: r => k x r
  | _ => none
def nt_i2 (st : List Value) (k : Int32 → Int32 → List Value → Option nt_C) : Option nt_C := match st with
  | .int y :: .int x :: r => k x y r
  | _ => none
def nt_j1 (st : List Value) (k : Int64 → List Value → Option nt_C) : Option nt_C := match st with
  | .long x :: r => k x r
  | _ => none
def nt_j2 (st : List Value) (k : Int64 → Int64 → List Value → Option nt_C) : Option nt_C := match st with
  | .long y :: .long x :: r => k x y r
  | _ => none
def nt_a1 (st : List Value) (k : Nat → List Value → Option nt_C) : Option nt_C := match st with
  | .ref a :: r => k a r
  | _ => none
def nt_ia (st : List Value) (k : Int32 → Nat → List Value → Option nt_C) : Option nt_C := match st with
  | .int i :: .ref a :: r => k i a r
  | _ => none
def nt_iia (st : List Value) (k : Int32 → Int32 → Nat → List Value → Option nt_C) : Option nt_C := match st with
  | .int x :: .int i :: .ref a :: r => k x i a r
  | _ => none
def nt_jia (st : List Value) (k : Int64 → Int32 → Nat → List Value → Option nt_C) : Option nt_C := match st with
  | .long x :: .int i :: .ref a :: r => k x i a r
  | _ => none
def nt_aia (st : List Value) (k : Nat → Int32 → Nat → List Value → Option nt_C) : Option nt_C := match st with
  | .ref x :: .int i :: .ref a :: r => k x i a r
  | _ => none
def nt_lkI (ls : nt_V) (i : Nat) (k : Int32 → Option nt_C) : Option nt_C := match nt_lk ls i with
  | some (.int x) => k x
  | _ => none
def nt_lkJ (ls : nt_V) (i : Nat) (k : Int64 → Option nt_C) : Option nt_C := match nt_lk ls i with
  | some (.long x) => k x
  | _ => none
def nt_lkA (ls : nt_V) (i : Nat) (k : Value → Option nt_C) : Option nt_C := match nt_lk ls i with
  | some (.ref x) => k (.ref x)
  | some .null => k .null
  | _ => none
def nt_stA (st : List Value) (k : Value → List Value → Option nt_C) : Option nt_C := match st with
  | .ref x :: r => k (.ref x) r
  | .null :: r => k .null r
  | _ => none
def nt_jp (pc : Nat) (off : Int) (k : Nat → Option nt_C) : Option nt_C := if 0 ≤ (pc : Int) + off then k ((pc : Int) + off).toNat else none
def nt_gf (M : nt_M) (a c j : Nat) : Value := match nt_tg c j with
  | 1 => .long (nt_J M a j)
  | 2 => nt_rv (nt_R M a j)
  | _ => .int (nt_I M a j)
def nt_pf (M : nt_M) (a c j : Nat) (v : Value) (k : nt_M → Option nt_C) : Option nt_C := match nt_tg c j, v with
  | 0, .int x => k (nt_sI M a j x)
  | 1, .long x => k (nt_sJ M a j x)
  | 2, .ref b => k (nt_sR M a j (some b))
  | 3, .int x => if x = 0 ∨ x = 1 then k (nt_sI M a j x) else none
  | _, _ => none
def nt_in {α : Type} (M : nt_M) (a kd : Nat) (i : Int32) (x : Option α) : Option α := if a < nt_n M ∧ nt_k M a = kd ∧ ¬ (i < 0 ∨ nt_l M a ≤ i.toNatClampNeg) then x else none
def nt_ak : ArrayType → Nat
  | .byte => 12
  | .int => 13
  | .long => 14
  | .boolean => 15
  | _ => 99
/-- an instruction that is no call and no return -/
def nt_sx (X : nt_X) (mi g t : Nat) (ins : Instr) (pc : Nat) (ls : nt_V) (st : List Value) (M : nt_M) : Option nt_C := match ins with
  | .aconst_null => some (pc + 1, ls, .null :: st, M)
  | .iconst n => some (pc + 1, ls, .int (Int32.ofInt n) :: st, M)
  | .bipush n => some (pc + 2, ls, .int (Int32.ofInt n) :: st, M)
  | .sipush n => some (pc + 3, ls, .int (Int32.ofInt n) :: st, M)
  | .lconst n => some (pc + 1, ls, .long (Int64.ofNat n) :: st, M)
  | .ldc _ => if g < 1000 then (match nt_KI[g]? with | some q => some (pc + 2, ls, .int q.2.2.1 :: st, M) | none => none) else (match nt_SR[g - 1000]? with | some q => some (pc + 2, ls, .ref (nt_sp + 1 + q.2.2.1) :: st, M) | none => none)
  | .ldc_w _ => (match nt_KI[g]? with | some q => some (pc + 3, ls, .int q.2.2.1 :: st, M) | none => none)
  | .ldc2_w _ => (match nt_KL[g]? with | some q => some (pc + 3, ls, .long q.2.2.1 :: st, M) | none => none)
  | .iload i => nt_lkI ls i fun x => some (pc + 2, ls, .int x :: st, M)
  | .iload_n i => nt_lkI ls i fun x => some (pc + 1, ls, .int x :: st, M)
  | .lload i => nt_lkJ ls i fun x => some (pc + 2, ls, .long x :: st, M)
  | .lload_n i => nt_lkJ ls i fun x => some (pc + 1, ls, .long x :: st, M)
  | .aload i => nt_lkA ls i fun x => some (pc + 2, ls, x :: st, M)
  | .aload_n i => nt_lkA ls i fun x => some (pc + 1, ls, x :: st, M)
  | .istore i => nt_i1 st fun x r => some (pc + 2, nt_s1 ls i (.int x), r, M)
  | .istore_n i => nt_i1 st fun x r => some (pc + 1, nt_s1 ls i (.int x), r, M)
  | .lstore i => nt_j1 st fun x r => some (pc + 2, nt_s2 ls i (.long x), r, M)
  | .lstore_n i => nt_j1 st fun x r => some (pc + 1, nt_s2 ls i (.long x), r, M)
  | .astore i => nt_stA st fun x r => some (pc + 2, nt_s1 ls i x, r, M)
  | .astore_n i => nt_stA st fun x r => some (pc + 1, nt_s1 ls i x, r, M)
  | .iinc i n => nt_lkI ls i fun x => some (pc + 3, nt_s1 ls i (.int (x + Int32.ofInt n)), st, M)
  | .iadd => nt_i2 st fun x y r => some (pc + 1, ls, .int (x + y) :: r, M)
  | .isub => nt_i2 st fun x y r => some (pc + 1, ls, .int (x - y) :: r, M)
  | .imul => nt_i2 st fun x y r => some (pc + 1, ls, .int (x * y) :: r, M)
  | .idiv => nt_i2 st fun x y r => if y = 0 then none else some (pc + 1, ls, .int (x / y) :: r, M)
  | .irem => nt_i2 st fun x y r => if y = 0 then none else some (pc + 1, ls, .int (x - x / y * y) :: r, M)
  | .iand => nt_i2 st fun x y r => some (pc + 1, ls, .int (x &&& y) :: r, M)
  | .ior => nt_i2 st fun x y r => some (pc + 1, ls, .int (x ||| y) :: r, M)
  | .ishl => nt_i2 st fun x y r => some (pc + 1, ls, .int (x <<< (y &&& 31)) :: r, M)
  | .ishr => nt_i2 st fun x y r => some (pc + 1, ls, .int (x >>> (y &&& 31)) :: r, M)
  | .iushr => nt_i2 st fun x y r => some (pc + 1, ls, .int (x.toUInt32 >>> (y.toUInt32 &&& Int32.toUInt32 31)).toInt32 :: r, M)
  | .ladd => nt_j2 st fun x y r => some (pc + 1, ls, .long (x + y) :: r, M)
  | .lsub => nt_j2 st fun x y r => some (pc + 1, ls, .long (x - y) :: r, M)
  | .lmul => nt_j2 st fun x y r => some (pc + 1, ls, .long (x * y) :: r, M)
  | .ldiv => nt_j2 st fun x y r => if y = 0 then none else some (pc + 1, ls, .long (x / y) :: r, M)
  | .lrem => nt_j2 st fun x y r => if y = 0 then none else some (pc + 1, ls, .long (x - x / y * y) :: r, M)
  | .land => nt_j2 st fun x y r => some (pc + 1, ls, .long (x &&& y) :: r, M)
  | .lor => nt_j2 st fun x y r => some (pc + 1, ls, .long (x ||| y) :: r, M)
  | .lshl => (match st with | .int y :: .long x :: r => some (pc + 1, ls, .long (x <<< (y.toInt64 &&& 63)) :: r, M) | _ => none)
  | .lcmp => nt_j2 st fun x y r => some (pc + 1, ls, .int (lg_cmp x y) :: r, M)
  | .i2l => nt_i1 st fun x r => some (pc + 1, ls, .long x.toInt64 :: r, M)
  | .l2i => nt_j1 st fun x r => some (pc + 1, ls, .int x.toInt32 :: r, M)
  | .i2b => nt_i1 st fun x r => some (pc + 1, ls, .int x.toInt8.toInt32 :: r, M)
  | .dup => (match st with | v :: r => if v.category = 1 then some (pc + 1, ls, v :: v :: r, M) else none | _ => none)
  | .pop => (match st with | v :: r => if v.category = 1 then some (pc + 1, ls, r, M) else none | _ => none)
  | .dup2 => (match st with | v :: w :: r => if v.category = 1 ∧ w.category = 1 then some (pc + 1, ls, v :: w :: v :: w :: r, M) else none | _ => none)
  | .ifCond .eq _ => nt_i1 st fun x r => some (if x = 0 then t else pc + 3, ls, r, M)
  | .ifCond .ne _ => nt_i1 st fun x r => some (if x = 0 then pc + 3 else t, ls, r, M)
  | .ifCond .lt _ => nt_i1 st fun x r => some (if x < 0 then t else pc + 3, ls, r, M)
  | .ifCond .ge _ => nt_i1 st fun x r => some (if 0 ≤ x then t else pc + 3, ls, r, M)
  | .ifCond .gt _ => nt_i1 st fun x r => some (if 0 < x then t else pc + 3, ls, r, M)
  | .ifCond .le _ => nt_i1 st fun x r => some (if x ≤ 0 then t else pc + 3, ls, r, M)
  | .if_icmp .eq _ => nt_i2 st fun x y r => some (if x = y then t else pc + 3, ls, r, M)
  | .if_icmp .ne _ => nt_i2 st fun x y r => some (if x = y then pc + 3 else t, ls, r, M)
  | .if_icmp .lt _ => nt_i2 st fun x y r => some (if x < y then t else pc + 3, ls, r, M)
  | .if_icmp .ge _ => nt_i2 st fun x y r => some (if y ≤ x then t else pc + 3, ls, r, M)
  | .if_icmp .gt _ => nt_i2 st fun x y r => some (if y < x then t else pc + 3, ls, r, M)
  | .if_icmp .le _ => nt_i2 st fun x y r => some (if x ≤ y then t else pc + 3, ls, r, M)
  | .ifnull _ => (match st with | .ref _ :: r => some (pc + 3, ls, r, M) | .null :: r => some (t, ls, r, M) | _ => none)
  | .ifnonnull _ => (match st with | .ref _ :: r => some (t, ls, r, M) | .null :: r => some (pc + 3, ls, r, M) | _ => none)
  | .goto _ => some (t, ls, st, M)
  | .tableswitch dflt lo hi offs => nt_i1 st fun x r => if x.toInt < lo ∨ hi < x.toInt then nt_jp pc dflt fun q => some (q, ls, r, M) else (match offs[(x.toInt - lo).toNat]? with | some off => nt_jp pc off fun q => some (q, ls, r, M) | none => none)
  | .lookupswitch dflt ps => nt_i1 st fun x r => if (ps.toList.zip (ps.toList.drop 1)).all (fun (a, b) => a.1 < b.1) = true then nt_jp pc (Op.lookupswitch.offset ps.toList dflt x.toInt) fun q => some (q, ls, r, M) else none
  | .getfield _ => nt_a1 st fun a r => if a < nt_n M ∧ nt_k M a = g / 100 ∧ g / 100 < 12 ∧ g % 100 < nt_N (g / 100) then some (pc + 3, ls, nt_gf M a (g / 100) (g % 100) :: r, M) else none
  | .putfield _ => (match st with | v :: .ref a :: r => if a < nt_n M ∧ nt_k M a = g / 100 ∧ g / 100 < 12 ∧ g % 100 < nt_N (g / 100) ∧ ((nt_T (g / 100) (g % 100)).2.2.2 = false ∨ (nt_m mi).2.2.2.2.2.2.1 = 2 ∧ (nt_m mi).2.2.2.2.1 = g / 100) then nt_pf M a (g / 100) (g % 100) v fun M' => some (pc + 3, ls, r, M') else none | _ => none)
  | .iaload => nt_ia st fun i a r => if a = nt_sp then (if i < 0 ∨ X.1 ≤ i.toNatClampNeg then none else some (pc + 1, ls, .int (X.2 i.toNatClampNeg) :: r, M)) else nt_in M a 13 i (some (pc + 1, ls, .int (nt_I M a i.toNatClampNeg) :: r, M))
  | .baload => nt_ia st fun i a r => if nt_k M a = 15 then nt_in M a 15 i (some (pc + 1, ls, .int (nt_I M a i.toNatClampNeg) :: r, M)) else nt_in M a 12 i (some (pc + 1, ls, .int (nt_I M a i.toNatClampNeg) :: r, M))
  | .laload => nt_ia st fun i a r => nt_in M a 14 i (some (pc + 1, ls, .long (nt_J M a i.toNatClampNeg) :: r, M))
  | .aaload => nt_ia st fun i a r => if nt_k M a = 17 then nt_in M a 17 i (some (pc + 1, ls, nt_rv (nt_R M a i.toNatClampNeg) :: r, M)) else nt_in M a 16 i (some (pc + 1, ls, nt_rv (nt_R M a i.toNatClampNeg) :: r, M))
  | .iastore => nt_iia st fun x i a r => nt_in M a 13 i (some (pc + 1, ls, r, nt_sI M a i.toNatClampNeg x))
  | .bastore => nt_iia st fun x i a r => if nt_k M a = 15 then nt_in M a 15 i (some (pc + 1, ls, r, nt_sI M a i.toNatClampNeg (vp_nar .boolean x))) else nt_in M a 12 i (some (pc + 1, ls, r, nt_sI M a i.toNatClampNeg (vp_nar .byte x)))
  | .lastore => nt_jia st fun x i a r => nt_in M a 14 i (some (pc + 1, ls, r, nt_sJ M a i.toNatClampNeg x))
  | .aastore => nt_aia st fun x i a r => if x < nt_n M ∧ (nt_k M a = 16 ∧ nt_k M x = 4 ∨ nt_k M a = 17 ∧ nt_k M x = 6) then nt_in M a (nt_k M a) i (some (pc + 1, ls, r, nt_sR M a i.toNatClampNeg (some x))) else none
  | .arraylength => nt_a1 st fun a r => if a = nt_sp then some (pc + 1, ls, .int (Int32.ofNat X.1) :: r, M) else if a < nt_n M ∧ 12 ≤ nt_k M a ∧ nt_k M a < 18 then some (pc + 1, ls, .int (Int32.ofNat (nt_l M a)) :: r, M) else none
  | .newarray ty => nt_i1 st fun n r => if nt_ak ty < 18 ∧ nt_n M < nt_sp ∧ ¬ n < 0 ∧ n.toNatClampNeg ≤ nt_sp then some (pc + 2, ls, .ref (nt_n M) :: r, nt_nw M (nt_ak ty) n.toNatClampNeg n.toNatClampNeg) else none
  | .anewarray _ => nt_i1 st fun n r => if (g = 4 ∨ g = 6) ∧ nt_n M < nt_sp ∧ ¬ n < 0 ∧ n.toNatClampNeg ≤ nt_sp then some (pc + 3, ls, .ref (nt_n M) :: r, nt_nw M (if g = 4 then 16 else 17) n.toNatClampNeg n.toNatClampNeg) else none
  | .new _ => if g < 12 ∧ nt_n M < nt_sp then some (pc + 3, ls, .ref (nt_n M) :: st, nt_nw M g 0 (nt_N g)) else none
  | _ => none
def nt_ct (st : List Value) : Nat := (st.map fun v => v.category).sum
/-- calls that make no frame of the small machine: Object's maker, arraycopy, max, min, a text's length and letters -/
def nt_nx (d g q pc : Nat) (ls : nt_V) (st : List Value) (M : nt_M) : Option nt_C :=
  if g = 1000 ∧ q = 2 then (nt_a1 st fun _ r => if 1 ≤ d ∧ nt_ct r ≤ 8 then some (pc + 3, ls, r, M) else none) else
  if g = 1001 ∧ q = 0 then ((match st with
    | .int n :: .int dp :: .ref a1 :: .int sp :: .ref a0 :: r => if 1 ≤ d ∧ nt_ct r ≤ 8 ∧ a0 < nt_n M ∧ a1 < nt_n M ∧ nt_k M a0 = nt_k M a1 ∧ (nt_k M a0 = 13 ∨ nt_k M a0 = 15) ∧ ¬ sp < 0 ∧ ¬ dp < 0 ∧ ¬ n < 0 ∧ sp.toNatClampNeg + n.toNatClampNeg ≤ nt_l M a0 ∧ dp.toNatClampNeg + n.toNatClampNeg ≤ nt_l M a1 then some (pc + 3, ls, r, nt_wI M a1 (va_cpy (nt_I M a0) (nt_I M a1) sp.toNatClampNeg dp.toNatClampNeg n.toNatClampNeg)) else none
    | _ => none)) else
  if g = 1002 ∧ q = 0 then (nt_i2 st fun x y r => if 1 ≤ d ∧ nt_ct r ≤ 8 then some (pc + 3, ls, .int (if x < y then y else x) :: r, M) else none) else
  if g = 1003 ∧ q = 0 then (nt_i2 st fun x y r => if 1 ≤ d ∧ nt_ct r ≤ 8 then some (pc + 3, ls, .int (if y < x then y else x) :: r, M) else none) else
  if g = 1004 ∧ q = 1 then (nt_a1 st fun a r => if 4 ≤ d ∧ nt_ct r ≤ 8 ∧ nt_sp < a ∧ a < nt_sp + 19 then some (pc + 3, ls, .int (Int32.ofNat (nt_SB.getD (nt_si a) []).length) :: r, M) else none) else
  if g = 1005 ∧ q = 1 then (nt_ia st fun i a r => if 4 ≤ d ∧ nt_ct r ≤ 8 ∧ nt_sp < a ∧ a < nt_sp + 19 ∧ ¬ (i < 0 ∨ (nt_SB.getD (nt_si a) []).length ≤ i.toNatClampNeg) then some (pc + 3, ls, .int ((nt_SB.getD (nt_si a) []).getD i.toNatClampNeg 0) :: r, M) else none) else
  none
def nt_at (mi pc : Nat) : Option (Nat × Instr × Nat × Nat) := (nt_pg mi).find? (fun e => Nat.beq e.1 pc)
def nt_rc (M : nt_M) (own : Nat) : List Value → Bool
  | .ref b :: _ => decide (b < nt_n M) && decide (nt_k M b = own)
  | _ => false
def nt_rf : List Value → Bool
  | .ref _ :: _ => true
  | _ => false
/-- a call of kind q (0 static, 1 of an object, 2 a maker) of method g -/
def nt_ca (rec : Nat → Nat → nt_C → Option (Option Value × nt_M)) (d mi g q : Nat) (c : nt_C) : Option (Option Value × nt_M) :=
  if 1000 ≤ g then (match nt_nx d g q c.1 c.2.1 c.2.2.1 c.2.2.2 with
    | some c' => rec d mi c'
    | none => none)
  else match d with
    | 0 => none
    | d' + 1 =>
      if g < 239 ∧ (nt_m g).2.2.2.2.2.2.1 = q ∧ (nt_m g).2.2.2.2.2.1 + (if q = 0 then 0 else 1) ≤ c.2.2.1.length ∧ (lg_sl (c.2.2.1.take ((nt_m g).2.2.2.2.2.1 + (if q = 0 then 0 else 1))).reverse).length ≤ (nt_m g).2.2.1 ∧ nt_ct (c.2.2.1.drop ((nt_m g).2.2.2.2.2.1 + (if q = 0 then 0 else 1))) ≤ 8 ∧ (q = 1 → nt_rc c.2.2.2 (nt_m g).2.2.2.2.1 (c.2.2.1.take ((nt_m g).2.2.2.2.2.1 + (if q = 0 then 0 else 1))).reverse = true) ∧ (q = 2 → nt_rf (c.2.2.1.take ((nt_m g).2.2.2.2.2.1 + (if q = 0 then 0 else 1))).reverse = true) then
        (match rec d' g (0, lv_args 0 (c.2.2.1.take ((nt_m g).2.2.2.2.2.1 + (if q = 0 then 0 else 1))).reverse, [], c.2.2.2) with
        | some o => rec (d' + 1) mi (c.1 + 3, c.2.1, o.1.toList ++ c.2.2.1.drop ((nt_m g).2.2.2.2.2.1 + (if q = 0 then 0 else 1)), o.2)
        | none => none)
      else none
def nt_re (mi : Nat) (ins : Instr) (st : List Value) (M : nt_M) : Option (Option Value × nt_M) := match ins, st, (nt_m mi).2.2.2.1 with
  | .ireturn, [.int v], some .int => some (some (.int v), M)
  | .ireturn, [.int v], some .boolean => if v = 0 ∨ v = 1 then some (some (.int v), M) else none
  | .lreturn, [.long v], some .long => some (some (.long v), M)
  | .areturn, [.ref a], some (.object _) => some (some (.ref a), M)
  | .areturn, [.null], some (.object _) => some (some .null, M)
  | .areturn, [.ref a], some (.array _) => some (some (.ref a), M)
  | .return_, [], none => some (none, M)
  | _, _, _ => none
def nt_ei (rec : Nat → Nat → nt_C → Option (Option Value × nt_M)) (X : nt_X) (d mi : Nat) (e : Nat × Instr × Nat × Nat) (c : nt_C) : Option (Option Value × nt_M) := match e.2.1 with
  | .ireturn => nt_re mi .ireturn c.2.2.1 c.2.2.2
  | .lreturn => nt_re mi .lreturn c.2.2.1 c.2.2.2
  | .areturn => nt_re mi .areturn c.2.2.1 c.2.2.2
  | .return_ => nt_re mi .return_ c.2.2.1 c.2.2.2
  | .invokevirtual _ => nt_ca rec d mi e.2.2.1 1 c
  | .invokestatic _ => nt_ca rec d mi e.2.2.1 0 c
  | .invokespecial _ => nt_ca rec d mi e.2.2.1 2 c
  | ins => (match nt_sx X mi e.2.2.1 e.2.2.2 ins c.1 c.2.1 c.2.2.1 c.2.2.2 with
    | some c' => rec d mi c'
    | none => none)
/-- the machine: fuel, calls' depth, method, state -/
def nt_ex (X : nt_X) : Nat → Nat → Nat → nt_C → Option (Option Value × nt_M)
  | 0, _, _, _ => none
  | f + 1, d, mi, c => match nt_at mi c.1 with
    | none => none
    | some e => nt_ei (nt_ex X f) X d mi e c
