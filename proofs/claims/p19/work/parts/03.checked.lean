def nt_len : Instr → Nat
  | .bipush _ | .iload _ | .lload _ | .aload _ | .istore _ | .lstore _ | .astore _ | .ldc _ | .newarray _ => 2
  | .sipush _ | .ldc_w _ | .ldc2_w _ | .ifCond _ _ | .if_icmp _ _ | .if_acmp _ _ | .ifnull _ | .ifnonnull _ | .goto _ | .getfield _ | .putfield _ | .getstatic _ | .putstatic _ | .invokevirtual _ | .invokespecial _ | .invokestatic _ | .new _ | .anewarray _ | .checkcast _ | .instanceof _ | .iinc _ _ => 3
  | _ => 1
def nt_sw : Instr → Bool
  | .tableswitch _ _ _ _ => true
  | .lookupswitch _ _ => true
  | _ => false
def nt_lk3 (t : List (Nat × Nat × Nat × Nat)) (own ix g : Nat) : Bool := t.any (fun q => Nat.beq q.1 own && Nat.beq q.2.1 ix && Nat.beq q.2.2.1 g)
def nt_okR (own : Nat) (e : Nat × Instr × Nat × Nat) : Bool := match e.2.1 with
  | .getfield ix => nt_lk3 nt_FL own ix e.2.2.1
  | .putfield ix => nt_lk3 nt_FL own ix e.2.2.1
  | .invokevirtual ix => Nat.beq e.2.2.1 9999 || nt_lk3 nt_ML own ix e.2.2.1
  | .invokestatic ix => nt_lk3 nt_ML own ix e.2.2.1
  | .invokespecial ix => nt_lk3 nt_ML own ix e.2.2.1 || nt_lk3 nt_NL own ix e.2.2.1
  | .new ix => nt_lk3 nt_CL own ix e.2.2.1
  | .anewarray ix => nt_lk3 nt_CL own ix e.2.2.1
  | .ldc2_w ix => (match nt_KL[e.2.2.1]? with | some q => Nat.beq q.1 own && Nat.beq q.2.1 ix | none => false)
  | .ldc ix => if e.2.2.1 < 1000 then (match nt_KI[e.2.2.1]? with | some q => Nat.beq q.1 own && Nat.beq q.2.1 ix | none => false) else (match nt_SR[e.2.2.1 - 1000]? with | some q => Nat.beq q.1 own && Nat.beq q.2.1 ix | none => false)
  | .ldc_w ix => (match nt_KI[e.2.2.1]? with | some q => Nat.beq q.1 own && Nat.beq q.2.1 ix | none => false)
  | .goto off => decide ((e.1 : Int) + off = (e.2.2.2 : Int))
  | .ifnull off => decide ((e.1 : Int) + off = (e.2.2.2 : Int))
  | .ifnonnull off => decide ((e.1 : Int) + off = (e.2.2.2 : Int))
  | .ifCond _ off => decide ((e.1 : Int) + off = (e.2.2.2 : Int))
  | .if_icmp _ off => decide ((e.1 : Int) + off = (e.2.2.2 : Int))
  | _ => true
def nt_okD (b : ByteArray) (e : Nat × Instr × Nat × Nat) : Bool := match decode b e.1 with
  | .ok (i, n) => decide (i = e.2.1) && (Nat.beq n (nt_len i) || nt_sw i)
  | .error _ => false
def nt_okL (ml : Nat) (e : Nat × Instr × Nat × Nat) : Bool := match e.2.1 with
  | .istore i => decide (i < ml)
  | .istore_n i => decide (i.val < ml)
  | .astore i => decide (i < ml)
  | .astore_n i => decide (i.val < ml)
  | .lstore i => decide (i + 1 < ml)
  | .lstore_n i => decide (i.val + 1 < ml)
  | .iinc i _ => decide (i < ml)
  | .bipush n => decide ((Int8.ofInt n).toInt32 = Int32.ofInt n)
  | .sipush n => decide ((Int16.ofInt n).toInt32 = Int32.ofInt n)
  | _ => true
def nt_okE (i : Nat) (e : Nat × Instr × Nat × Nat) : Bool := nt_okD (nt_m i).2.1 e && (nt_okR (nt_m i).2.2.2.2.1 e && nt_okL (nt_m i).2.2.1 e)
set_option maxRecDepth 100000 in
theorem nt_c0 : ((List.range' 0 8).all fun i => (nt_pg i).all (nt_okE i)) = true := by decide +kernel
set_option maxRecDepth 100000 in
theorem nt_c8 : ((List.range' 8 8).all fun i => (nt_pg i).all (nt_okE i)) = true := by decide +kernel
set_option maxRecDepth 100000 in
theorem nt_c16 : ((List.range' 16 8).all fun i => (nt_pg i).all (nt_okE i)) = true := by decide +kernel
set_option maxRecDepth 100000 in
theorem nt_c24 : ((List.range' 24 8).all fun i => (nt_pg i).all (nt_okE i)) = true := by decide +kernel
set_option maxRecDepth 100000 in
theorem nt_c32 : ((List.range' 32 8).all fun i => (nt_pg i).all (nt_okE i)) = true := by decide +kernel
set_option maxRecDepth 100000 in
theorem nt_c40 : ((List.range' 40 8).all fun i => (nt_pg i).all (nt_okE i)) = true := by decide +kernel
set_option maxRecDepth 100000 in
theorem nt_c48 : ((List.range' 48 8).all fun i => (nt_pg i).all (nt_okE i)) = true := by decide +kernel
set_option maxRecDepth 100000 in
theorem nt_c56 : ((List.range' 56 8).all fun i => (nt_pg i).all (nt_okE i)) = true := by decide +kernel
set_option maxRecDepth 100000 in
theorem nt_c64 : ((List.range' 64 8).all fun i => (nt_pg i).all (nt_okE i)) = true := by decide +kernel
set_option maxRecDepth 100000 in
theorem nt_c72 : ((List.range' 72 8).all fun i => (nt_pg i).all (nt_okE i)) = true := by decide +kernel
set_option maxRecDepth 100000 in
theorem nt_c80 : ((List.range' 80 8).all fun i => (nt_pg i).all (nt_okE i)) = true := by decide +kernel
set_option maxRecDepth 100000 in
theorem nt_c88 : ((List.range' 88 8).all fun i => (nt_pg i).all (nt_okE i)) = true := by decide +kernel
set_option maxRecDepth 100000 in
theorem nt_c96 : ((List.range' 96 8).all fun i => (nt_pg i).all (nt_okE i)) = true := by decide +kernel
set_option maxRecDepth 100000 in
theorem nt_c104 : ((List.range' 104 8).all fun i => (nt_pg i).all (nt_okE i)) = true := by decide +kernel
set_option maxRecDepth 100000 in
theorem nt_c112 : ((List.range' 112 8).all fun i => (nt_pg i).all (nt_okE i)) = true := by decide +kernel
set_option maxRecDepth 100000 in
theorem nt_c120 : ((List.range' 120 8).all fun i => (nt_pg i).all (nt_okE i)) = true := by decide +kernel
set_option maxRecDepth 100000 in
theorem nt_c128 : ((List.range' 128 8).all fun i => (nt_pg i).all (nt_okE i)) = true := by decide +kernel
set_option maxRecDepth 100000 in
theorem nt_c136 : ((List.range' 136 8).all fun i => (nt_pg i).all (nt_okE i)) = true := by decide +kernel
set_option maxRecDepth 100000 in
theorem nt_c144 : ((List.range' 144 8).all fun i => (nt_pg i).all (nt_okE i)) = true := by decide +kernel
set_option maxRecDepth 100000 in
theorem nt_c152 : ((List.range' 152 8).all fun i => (nt_pg i).all (nt_okE i)) = true := by decide +kernel
set_option maxRecDepth 100000 in
theorem nt_c160 : ((List.range' 160 8).all fun i => (nt_pg i).all (nt_okE i)) = true := by decide +kernel
set_option maxRecDepth 100000 in
theorem nt_c168 : ((List.range' 168 8).all fun i => (nt_pg i).all (nt_okE i)) = true := by decide +kernel
set_option maxRecDepth 100000 in
theorem nt_c176 : ((List.range' 176 8).all fun i => (nt_pg i).all (nt_okE i)) = true := by decide +kernel
set_option maxRecDepth 100000 in
theorem nt_c184 : ((List.range' 184 8).all fun i => (nt_pg i).all (nt_okE i)) = true := by decide +kernel
set_option maxRecDepth 100000 in
theorem nt_c192 : ((List.range' 192 8).all fun i => (nt_pg i).all (nt_okE i)) = true := by decide +kernel
set_option maxRecDepth 100000 in
theorem nt_c200 : ((List.range' 200 8).all fun i => (nt_pg i).all (nt_okE i)) = true := by decide +kernel
set_option maxRecDepth 100000 in
theorem nt_c208 : ((List.range' 208 8).all fun i => (nt_pg i).all (nt_okE i)) = true := by decide +kernel
set_option maxRecDepth 100000 in
theorem nt_c216 : ((List.range' 216 8).all fun i => (nt_pg i).all (nt_okE i)) = true := by decide +kernel
set_option maxRecDepth 100000 in
theorem nt_c224 : ((List.range' 224 8).all fun i => (nt_pg i).all (nt_okE i)) = true := by decide +kernel
set_option maxRecDepth 100000 in
theorem nt_c232 : ((List.range' 232 7).all fun i => (nt_pg i).all (nt_okE i)) = true := by decide +kernel
set_option maxRecDepth 100000 in
theorem nt_c239_0 : nt_p239_0.all (nt_okE 239) = true := by decide +kernel
set_option maxRecDepth 100000 in
theorem nt_c239_1 : nt_p239_1.all (nt_okE 239) = true := by decide +kernel
set_option maxRecDepth 100000 in
theorem nt_c239_2 : nt_p239_2.all (nt_okE 239) = true := by decide +kernel
set_option maxRecDepth 100000 in
theorem nt_c239_3 : nt_p239_3.all (nt_okE 239) = true := by decide +kernel
set_option maxRecDepth 100000 in
theorem nt_c239_4 : nt_p239_4.all (nt_okE 239) = true := by decide +kernel
set_option maxRecDepth 100000 in
theorem nt_c239_5 : nt_p239_5.all (nt_okE 239) = true := by decide +kernel
set_option maxRecDepth 100000 in
theorem nt_c239_6 : nt_p239_6.all (nt_okE 239) = true := by decide +kernel
set_option maxRecDepth 100000 in
theorem nt_c239_7 : nt_p239_7.all (nt_okE 239) = true := by decide +kernel
set_option maxRecDepth 100000 in
theorem nt_c239_8 : nt_p239_8.all (nt_okE 239) = true := by decide +kernel
set_option maxRecDepth 100000 in
theorem nt_c239_9 : nt_p239_9.all (nt_okE 239) = true := by decide +kernel
set_option maxRecDepth 100000 in
theorem nt_c239_10 : nt_p239_10.all (nt_okE 239) = true := by decide +kernel
set_option maxRecDepth 100000 in
theorem nt_c239_11 : nt_p239_11.all (nt_okE 239) = true := by decide +kernel
set_option maxRecDepth 100000 in
theorem nt_c239_12 : nt_p239_12.all (nt_okE 239) = true := by decide +kernel
set_option maxRecDepth 100000 in
theorem nt_c239_13 : nt_p239_13.all (nt_okE 239) = true := by decide +kernel
set_option maxRecDepth 100000 in
theorem nt_c239_14 : nt_p239_14.all (nt_okE 239) = true := by decide +kernel
set_option maxRecDepth 100000 in
theorem nt_c239_15 : nt_p239_15.all (nt_okE 239) = true := by decide +kernel
set_option maxRecDepth 100000 in
theorem nt_c239_16 : nt_p239_16.all (nt_okE 239) = true := by decide +kernel
set_option maxRecDepth 100000 in
theorem nt_c239_17 : nt_p239_17.all (nt_okE 239) = true := by decide +kernel
set_option maxRecDepth 100000 in
theorem nt_c239_18 : nt_p239_18.all (nt_okE 239) = true := by decide +kernel
set_option maxRecDepth 100000 in
theorem nt_c239_19 : nt_p239_19.all (nt_okE 239) = true := by decide +kernel
