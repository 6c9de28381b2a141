/-! each instruction of the small machine is one of the machine -/
def nt_vl (n k : Nat) : Prop := k < n ∨ nt_sp ≤ k
/-- what stands around the cells: the tables' numbers, the script, the texts -/
def nt_Am (D : va_G) (cy ad0 adV : Nat → Nat) (X : nt_X) (A : Nat → Prop) (U : State) (H : Heap) : Prop :=
  va_K D nt_cl (nt_tys cy) U ∧ va_X (ad0 nt_sp) X.1 X.2 U H ∧ ad0 nt_sp < H.size ∧ ¬ A (ad0 nt_sp) ∧ (∀ e ∈ nt_NL, va_Nw (.methodLinkNest (nt_RN e.1) e.2.1 (nt_m e.2.2.1).1 "NineTimbers") U) ∧ va_AO (nt_RN 4) U ∧ va_AO (nt_RN 6) U ∧ (∀ e ∈ nt_SR, vk_R (nt_RN e.1) e.2.1 (nt_SX.getD e.2.2.1 "") (ad0 (nt_sp + 1 + e.2.2.1)) U) ∧ vk_S 18 (nt_SB.map List.length) nt_SB (fun i => ad0 (nt_sp + 1 + i)) adV A U H ∧ va_Z "java/lang/String" "COMPACT_STRINGS" "Z" (.int 1) A U H ∧ va_Zq "jdk/internal/util/Preconditions" "SIOOBE_FORMATTER" "Ljava/util/function/BiFunction;" A U H
/-- a method of the program at work -/
def nt_At (p : Program) (s : State) (m : MethodId) (args : Array Value) (meth : Method) (c : Code) (mi : Nat) (D : va_G) (cy ad0 adV : Nat → Nat) (X : nt_X) (A : Nat → Prop) : Prop :=
  p.tables.exec = Jvm.exec ∧ c.code = (nt_m mi).2.1 ∧ c.maxLocals = (nt_m mi).2.2.1 ∧ s.vm.findClass (nt_RN (nt_m mi).2.2.2.2.1) = some m.cls ∧ (∀ w ∈ nt_ws, w.before args s = true) ∧ (∀ q : Nat, s.heap.size ≤ q → A q) ∧ ((nt_m mi).2.2.2.2.2.2.1 = 2 → meth.name = "<init>") ∧ meth.sig.returnType = (nt_m mi).2.2.2.1 ∧ meth.locks = false ∧ nt_Am D cy ad0 adV X A s s.heap
/-- the machine comes to Q from every frame and heap that hold the small machine's state -/
def nt_Wd (p : Program) (l : Launch) (e : Env) (R : Room) (s : State) (m : MethodId) (args : Array Value) (below : List Frame) (meth : Method) (c : Code) (mi n0 z0 : Nat) (D : va_G) (cy ad0 : Nat → Nat) (A : Nat → Prop) (Q : State → Prop) (x : nt_C) : Prop :=
  ∀ (ad : Nat → Nat) (lsA : Array Slot) (H : Heap) (locs : List Loc), (∀ k, nt_vl n0 k → ad k = ad0 k) → lv_has lsA (nt_m mi).2.2.1 (x.2.1.map (nt_tq ad)) → va_P D nt_cl (nt_w cy ad x.2.2.2) H → va_D A (nt_w cy ad x.2.2.2) → va_S A s.heap H locs →
    W p l e R s m args below meth c H locs (nt_n x.2.2.2 - n0) (nt_z x.2.2.2 - z0) Q (F0 m x.1 lsA (x.2.2.1.map (nt_tv ad)))
section NTS
variable {p : Program} {l : Launch} {e : Env} {R : Room} {s : State} {m : MethodId} {args : Array Value} {below : List Frame} {meth : Method} {c : Code} {mi n0 z0 : Nat} {D : va_G} {cy ad0 adV : Nat → Nat} {X : nt_X} {A : Nat → Prop} {Q : State → Prop} {g t pc : Nat} {ls : nt_V} {st : List Value} {M : nt_M} {x' : nt_C}
theorem nt_q_aconst_null  (C0 : nt_At p s m args meth c mi D cy ad0 adV X A) (hE : nt_okE mi (pc, .aconst_null, g, t) = true) (hs : nt_sx X mi g t .aconst_null pc ls st M = some x') (kk : nt_Wd p l e R s m args below meth c mi n0 z0 D cy ad0 A Q x') : nt_Wd p l e R s m args below meth c mi n0 z0 D cy ad0 A Q (pc, ls, st, M) := by
  obtain ⟨hx, hb, hml, hown, hts, hA, hinit, hret, hlocks, hAm⟩ := C0
  cases hs
  intro ad lsA H locs h1 hl hP hD hS
  exact lv_null hx hb (nt_dec hE rfl) (kk ad lsA H locs h1 hl hP hD hS)
theorem nt_q_iconst {n : Int} (C0 : nt_At p s m args meth c mi D cy ad0 adV X A) (hE : nt_okE mi (pc, (.iconst n), g, t) = true) (hs : nt_sx X mi g t (.iconst n) pc ls st M = some x') (kk : nt_Wd p l e R s m args below meth c mi n0 z0 D cy ad0 A Q x') : nt_Wd p l e R s m args below meth c mi n0 z0 D cy ad0 A Q (pc, ls, st, M) := by
  obtain ⟨hx, hb, hml, hown, hts, hA, hinit, hret, hlocks, hAm⟩ := C0
  cases hs
  intro ad lsA H locs h1 hl hP hD hS
  exact lv_iconst hx hb (nt_dec hE rfl) rfl (kk ad lsA H locs h1 hl hP hD hS)
theorem nt_q_bipush {n : Int} (C0 : nt_At p s m args meth c mi D cy ad0 adV X A) (hE : nt_okE mi (pc, (.bipush n), g, t) = true) (hs : nt_sx X mi g t (.bipush n) pc ls st M = some x') (kk : nt_Wd p l e R s m args below meth c mi n0 z0 D cy ad0 A Q x') : nt_Wd p l e R s m args below meth c mi n0 z0 D cy ad0 A Q (pc, ls, st, M) := by
  obtain ⟨hx, hb, hml, hown, hts, hA, hinit, hret, hlocks, hAm⟩ := C0
  cases hs
  intro ad lsA H locs h1 hl hP hD hS
  exact lv_bipush hx hb (nt_dec hE rfl) (of_decide_eq_true (nt_okE_L hE)) (kk ad lsA H locs h1 hl hP hD hS)
theorem nt_q_sipush {n : Int} (C0 : nt_At p s m args meth c mi D cy ad0 adV X A) (hE : nt_okE mi (pc, (.sipush n), g, t) = true) (hs : nt_sx X mi g t (.sipush n) pc ls st M = some x') (kk : nt_Wd p l e R s m args below meth c mi n0 z0 D cy ad0 A Q x') : nt_Wd p l e R s m args below meth c mi n0 z0 D cy ad0 A Q (pc, ls, st, M) := by
  obtain ⟨hx, hb, hml, hown, hts, hA, hinit, hret, hlocks, hAm⟩ := C0
  cases hs
  intro ad lsA H locs h1 hl hP hD hS
  exact lv_sipush hx hb (nt_dec hE rfl) (of_decide_eq_true (nt_okE_L hE)) (kk ad lsA H locs h1 hl hP hD hS)
theorem nt_q_lconst {n : Fin 2} (C0 : nt_At p s m args meth c mi D cy ad0 adV X A) (hE : nt_okE mi (pc, (.lconst n), g, t) = true) (hs : nt_sx X mi g t (.lconst n) pc ls st M = some x') (kk : nt_Wd p l e R s m args below meth c mi n0 z0 D cy ad0 A Q x') : nt_Wd p l e R s m args below meth c mi n0 z0 D cy ad0 A Q (pc, ls, st, M) := by
  obtain ⟨hx, hb, hml, hown, hts, hA, hinit, hret, hlocks, hAm⟩ := C0
  cases hs
  intro ad lsA H locs h1 hl hP hD hS
  exact lv_lconst hx hb (nt_dec hE rfl) rfl (kk ad lsA H locs h1 hl hP hD hS)
theorem nt_q_goto {n : Int} (C0 : nt_At p s m args meth c mi D cy ad0 adV X A) (hE : nt_okE mi (pc, (.goto n), g, t) = true) (hs : nt_sx X mi g t (.goto n) pc ls st M = some x') (kk : nt_Wd p l e R s m args below meth c mi n0 z0 D cy ad0 A Q x') : nt_Wd p l e R s m args below meth c mi n0 z0 D cy ad0 A Q (pc, ls, st, M) := by
  obtain ⟨hx, hb, hml, hown, hts, hA, hinit, hret, hlocks, hAm⟩ := C0
  cases hs
  intro ad lsA H locs h1 hl hP hD hS
  exact lv_goto hx hb (nt_dec hE rfl) (of_decide_eq_true (nt_okE_R hE)) (kk ad lsA H locs h1 hl hP hD hS)
theorem nt_q_iload {i : Nat} (C0 : nt_At p s m args meth c mi D cy ad0 adV X A) (hE : nt_okE mi (pc, (.iload i), g, t) = true) (hs : nt_sx X mi g t (.iload i) pc ls st M = some x') (kk : nt_Wd p l e R s m args below meth c mi n0 z0 D cy ad0 A Q x') : nt_Wd p l e R s m args below meth c mi n0 z0 D cy ad0 A Q (pc, ls, st, M) := by
  obtain ⟨hx, hb, hml, hown, hts, hA, hinit, hret, hlocks, hAm⟩ := C0
  obtain ⟨x, hk, hs⟩ := nt_lkI_some hs
  cases hs
  intro ad lsA H locs h1 hl hP hD hS
  obtain ⟨k, hk2⟩ := nt_lk_map (ad := ad) hk
  exact lv_iload hx hb (nt_dec hE rfl) (lv_at hl k hk2) (kk ad lsA H locs h1 hl hP hD hS)
theorem nt_q_iload_n {i : Fin 4} (C0 : nt_At p s m args meth c mi D cy ad0 adV X A) (hE : nt_okE mi (pc, (.iload_n i), g, t) = true) (hs : nt_sx X mi g t (.iload_n i) pc ls st M = some x') (kk : nt_Wd p l e R s m args below meth c mi n0 z0 D cy ad0 A Q x') : nt_Wd p l e R s m args below meth c mi n0 z0 D cy ad0 A Q (pc, ls, st, M) := by
  obtain ⟨hx, hb, hml, hown, hts, hA, hinit, hret, hlocks, hAm⟩ := C0
  obtain ⟨x, hk, hs⟩ := nt_lkI_some hs
  cases hs
  intro ad lsA H locs h1 hl hP hD hS
  obtain ⟨k, hk2⟩ := nt_lk_map (ad := ad) hk
  exact lv_iload_n hx hb (nt_dec hE rfl) rfl (lv_at hl k hk2) (kk ad lsA H locs h1 hl hP hD hS)
theorem nt_q_lload {i : Nat} (C0 : nt_At p s m args meth c mi D cy ad0 adV X A) (hE : nt_okE mi (pc, (.lload i), g, t) = true) (hs : nt_sx X mi g t (.lload i) pc ls st M = some x') (kk : nt_Wd p l e R s m args below meth c mi n0 z0 D cy ad0 A Q x') : nt_Wd p l e R s m args below meth c mi n0 z0 D cy ad0 A Q (pc, ls, st, M) := by
  obtain ⟨hx, hb, hml, hown, hts, hA, hinit, hret, hlocks, hAm⟩ := C0
  obtain ⟨x, hk, hs⟩ := nt_lkJ_some hs
  cases hs
  intro ad lsA H locs h1 hl hP hD hS
  obtain ⟨k, hk2⟩ := nt_lk_map (ad := ad) hk
  exact lv_lload hx hb (nt_dec hE rfl) (lv_at hl k hk2) (kk ad lsA H locs h1 hl hP hD hS)
theorem nt_q_lload_n {i : Fin 4} (C0 : nt_At p s m args meth c mi D cy ad0 adV X A) (hE : nt_okE mi (pc, (.lload_n i), g, t) = true) (hs : nt_sx X mi g t (.lload_n i) pc ls st M = some x') (kk : nt_Wd p l e R s m args below meth c mi n0 z0 D cy ad0 A Q x') : nt_Wd p l e R s m args below meth c mi n0 z0 D cy ad0 A Q (pc, ls, st, M) := by
  obtain ⟨hx, hb, hml, hown, hts, hA, hinit, hret, hlocks, hAm⟩ := C0
  obtain ⟨x, hk, hs⟩ := nt_lkJ_some hs
  cases hs
  intro ad lsA H locs h1 hl hP hD hS
  obtain ⟨k, hk2⟩ := nt_lk_map (ad := ad) hk
  exact lv_lload_n hx hb (nt_dec hE rfl) rfl (lv_at hl k hk2) (kk ad lsA H locs h1 hl hP hD hS)
theorem nt_q_aload {i : Nat} (C0 : nt_At p s m args meth c mi D cy ad0 adV X A) (hE : nt_okE mi (pc, (.aload i), g, t) = true) (hs : nt_sx X mi g t (.aload i) pc ls st M = some x') (kk : nt_Wd p l e R s m args below meth c mi n0 z0 D cy ad0 A Q x') : nt_Wd p l e R s m args below meth c mi n0 z0 D cy ad0 A Q (pc, ls, st, M) := by
  obtain ⟨hx, hb, hml, hown, hts, hA, hinit, hret, hlocks, hAm⟩ := C0
  have hs : nt_lkA ls i (fun x => some (pc + 2, ls, x :: st, M)) = some x' := hs
  rcases nt_lkA_some hs with ⟨x, hk, hs⟩ | ⟨hk, hs⟩
  · cases hs
    intro ad lsA H locs h1 hl hP hD hS
    obtain ⟨k, hk2⟩ := nt_lk_map (ad := ad) hk
    exact lv_aload hx hb (nt_dec hE rfl) (lv_at hl k hk2) (kk ad lsA H locs h1 hl hP hD hS)
  · cases hs
    intro ad lsA H locs h1 hl hP hD hS
    obtain ⟨k, hk2⟩ := nt_lk_map (ad := ad) hk
    exact lv_aloadN hx hb (nt_dec hE rfl) (lv_at hl k hk2) (kk ad lsA H locs h1 hl hP hD hS)
theorem nt_q_aload_n {i : Fin 4} (C0 : nt_At p s m args meth c mi D cy ad0 adV X A) (hE : nt_okE mi (pc, (.aload_n i), g, t) = true) (hs : nt_sx X mi g t (.aload_n i) pc ls st M = some x') (kk : nt_Wd p l e R s m args below meth c mi n0 z0 D cy ad0 A Q x') : nt_Wd p l e R s m args below meth c mi n0 z0 D cy ad0 A Q (pc, ls, st, M) := by
  obtain ⟨hx, hb, hml, hown, hts, hA, hinit, hret, hlocks, hAm⟩ := C0
  have hs : nt_lkA ls i (fun x => some (pc + 1, ls, x :: st, M)) = some x' := hs
  rcases nt_lkA_some hs with ⟨x, hk, hs⟩ | ⟨hk, hs⟩
  · cases hs
    intro ad lsA H locs h1 hl hP hD hS
    obtain ⟨k, hk2⟩ := nt_lk_map (ad := ad) hk
    exact lv_aload_n hx hb (nt_dec hE rfl) rfl (lv_at hl k hk2) (kk ad lsA H locs h1 hl hP hD hS)
  · cases hs
    intro ad lsA H locs h1 hl hP hD hS
    obtain ⟨k, hk2⟩ := nt_lk_map (ad := ad) hk
    exact lv_aload_nN hx hb (nt_dec hE rfl) rfl (lv_at hl k hk2) (kk ad lsA H locs h1 hl hP hD hS)
theorem nt_q_istore {i : Nat} (C0 : nt_At p s m args meth c mi D cy ad0 adV X A) (hE : nt_okE mi (pc, (.istore i), g, t) = true) (hs : nt_sx X mi g t (.istore i) pc ls st M = some x') (kk : nt_Wd p l e R s m args below meth c mi n0 z0 D cy ad0 A Q x') : nt_Wd p l e R s m args below meth c mi n0 z0 D cy ad0 A Q (pc, ls, st, M) := by
  obtain ⟨hx, hb, hml, hown, hts, hA, hinit, hret, hlocks, hAm⟩ := C0
  obtain ⟨x, r, rfl, hs⟩ := nt_i1_some hs
  cases hs
  intro ad lsA H locs h1 hl hP hD hS
  exact lv_istore hx hb (nt_dec hE rfl) hl (of_decide_eq_true (nt_okE_L hE)) (nt_s1_map ad ls _ (.int x)) (fun ls2 hl2 => kk ad ls2 H locs h1 hl2 hP hD hS)
theorem nt_q_istore_n {i : Fin 4} (C0 : nt_At p s m args meth c mi D cy ad0 adV X A) (hE : nt_okE mi (pc, (.istore_n i), g, t) = true) (hs : nt_sx X mi g t (.istore_n i) pc ls st M = some x') (kk : nt_Wd p l e R s m args below meth c mi n0 z0 D cy ad0 A Q x') : nt_Wd p l e R s m args below meth c mi n0 z0 D cy ad0 A Q (pc, ls, st, M) := by
  obtain ⟨hx, hb, hml, hown, hts, hA, hinit, hret, hlocks, hAm⟩ := C0
  obtain ⟨x, r, rfl, hs⟩ := nt_i1_some hs
  cases hs
  intro ad lsA H locs h1 hl hP hD hS
  exact lv_istore_n hx hb (nt_dec hE rfl) rfl hl (of_decide_eq_true (nt_okE_L hE)) (nt_s1_map ad ls _ (.int x)) (fun ls2 hl2 => kk ad ls2 H locs h1 hl2 hP hD hS)
theorem nt_q_lstore {i : Nat} (C0 : nt_At p s m args meth c mi D cy ad0 adV X A) (hE : nt_okE mi (pc, (.lstore i), g, t) = true) (hs : nt_sx X mi g t (.lstore i) pc ls st M = some x') (kk : nt_Wd p l e R s m args below meth c mi n0 z0 D cy ad0 A Q x') : nt_Wd p l e R s m args below meth c mi n0 z0 D cy ad0 A Q (pc, ls, st, M) := by
  obtain ⟨hx, hb, hml, hown, hts, hA, hinit, hret, hlocks, hAm⟩ := C0
  obtain ⟨x, r, rfl, hs⟩ := nt_j1_some hs
  cases hs
  intro ad lsA H locs h1 hl hP hD hS
  exact lv_lstore hx hb (nt_dec hE rfl) hl (of_decide_eq_true (nt_okE_L hE)) (nt_s2_map ad ls _ (.long x)) (fun ls2 hl2 => kk ad ls2 H locs h1 hl2 hP hD hS)
theorem nt_q_lstore_n {i : Fin 4} (C0 : nt_At p s m args meth c mi D cy ad0 adV X A) (hE : nt_okE mi (pc, (.lstore_n i), g, t) = true) (hs : nt_sx X mi g t (.lstore_n i) pc ls st M = some x') (kk : nt_Wd p l e R s m args below meth c mi n0 z0 D cy ad0 A Q x') : nt_Wd p l e R s m args below meth c mi n0 z0 D cy ad0 A Q (pc, ls, st, M) := by
  obtain ⟨hx, hb, hml, hown, hts, hA, hinit, hret, hlocks, hAm⟩ := C0
  obtain ⟨x, r, rfl, hs⟩ := nt_j1_some hs
  cases hs
  intro ad lsA H locs h1 hl hP hD hS
  exact lv_lstore_n hx hb (nt_dec hE rfl) rfl hl (of_decide_eq_true (nt_okE_L hE)) (nt_s2_map ad ls _ (.long x)) (fun ls2 hl2 => kk ad ls2 H locs h1 hl2 hP hD hS)
theorem nt_q_astore {i : Nat} (C0 : nt_At p s m args meth c mi D cy ad0 adV X A) (hE : nt_okE mi (pc, (.astore i), g, t) = true) (hs : nt_sx X mi g t (.astore i) pc ls st M = some x') (kk : nt_Wd p l e R s m args below meth c mi n0 z0 D cy ad0 A Q x') : nt_Wd p l e R s m args below meth c mi n0 z0 D cy ad0 A Q (pc, ls, st, M) := by
  obtain ⟨hx, hb, hml, hown, hts, hA, hinit, hret, hlocks, hAm⟩ := C0
  have hs : nt_stA st (fun x r => some (pc + 2, nt_s1 ls i x, r, M)) = some x' := hs
  rcases nt_stA_some hs with ⟨x, r, rfl, hs⟩ | ⟨r, rfl, hs⟩
  · cases hs
    intro ad lsA H locs h1 hl hP hD hS
    exact lv_astore hx hb (nt_dec hE rfl) hl (of_decide_eq_true (nt_okE_L hE)) (nt_s1_map ad ls _ (.ref x)) (fun ls2 hl2 => kk ad ls2 H locs h1 hl2 hP hD hS)
  · cases hs
    intro ad lsA H locs h1 hl hP hD hS
    exact lv_astoreN hx hb (nt_dec hE rfl) hl (of_decide_eq_true (nt_okE_L hE)) (nt_s1_map ad ls _ .null) (fun ls2 hl2 => kk ad ls2 H locs h1 hl2 hP hD hS)
theorem nt_q_astore_n {i : Fin 4} (C0 : nt_At p s m args meth c mi D cy ad0 adV X A) (hE : nt_okE mi (pc, (.astore_n i), g, t) = true) (hs : nt_sx X mi g t (.astore_n i) pc ls st M = some x') (kk : nt_Wd p l e R s m args below meth c mi n0 z0 D cy ad0 A Q x') : nt_Wd p l e R s m args below meth c mi n0 z0 D cy ad0 A Q (pc, ls, st, M) := by
  obtain ⟨hx, hb, hml, hown, hts, hA, hinit, hret, hlocks, hAm⟩ := C0
  have hs : nt_stA st (fun x r => some (pc + 1, nt_s1 ls i x, r, M)) = some x' := hs
  rcases nt_stA_some hs with ⟨x, r, rfl, hs⟩ | ⟨r, rfl, hs⟩
  · cases hs
    intro ad lsA H locs h1 hl hP hD hS
    exact lv_astore_n hx hb (nt_dec hE rfl) rfl hl (of_decide_eq_true (nt_okE_L hE)) (nt_s1_map ad ls _ (.ref x)) (fun ls2 hl2 => kk ad ls2 H locs h1 hl2 hP hD hS)
  · cases hs
    intro ad lsA H locs h1 hl hP hD hS
    exact lv_astore_nN hx hb (nt_dec hE rfl) rfl hl (of_decide_eq_true (nt_okE_L hE)) (nt_s1_map ad ls _ .null) (fun ls2 hl2 => kk ad ls2 H locs h1 hl2 hP hD hS)
theorem nt_q_iinc {i : Nat} {n : Int} (C0 : nt_At p s m args meth c mi D cy ad0 adV X A) (hE : nt_okE mi (pc, (.iinc i n), g, t) = true) (hs : nt_sx X mi g t (.iinc i n) pc ls st M = some x') (kk : nt_Wd p l e R s m args below meth c mi n0 z0 D cy ad0 A Q x') : nt_Wd p l e R s m args below meth c mi n0 z0 D cy ad0 A Q (pc, ls, st, M) := by
  obtain ⟨hx, hb, hml, hown, hts, hA, hinit, hret, hlocks, hAm⟩ := C0
  obtain ⟨x, hk, hs⟩ := nt_lkI_some hs
  cases hs
  intro ad lsA H locs h1 hl hP hD hS
  obtain ⟨k, hk2⟩ := nt_lk_map (ad := ad) hk
  exact lv_iinc hx hb (nt_dec hE rfl) hl hk2 rfl (of_decide_eq_true (nt_okE_L hE)) (nt_s1_map ad ls _ (.int _)) (fun ls2 hl2 => kk ad ls2 H locs h1 hl2 hP hD hS)
theorem nt_q_iadd  (C0 : nt_At p s m args meth c mi D cy ad0 adV X A) (hE : nt_okE mi (pc, .iadd, g, t) = true) (hs : nt_sx X mi g t .iadd pc ls st M = some x') (kk : nt_Wd p l e R s m args below meth c mi n0 z0 D cy ad0 A Q x') : nt_Wd p l e R s m args below meth c mi n0 z0 D cy ad0 A Q (pc, ls, st, M) := by
  obtain ⟨hx, hb, hml, hown, hts, hA, hinit, hret, hlocks, hAm⟩ := C0
  obtain ⟨x, y, r, rfl, hs⟩ := nt_i2_some hs
  cases hs
  intro ad lsA H locs h1 hl hP hD hS
  exact lv_iadd hx hb (nt_dec hE rfl) (kk ad lsA H locs h1 hl hP hD hS)
theorem nt_q_isub  (C0 : nt_At p s m args meth c mi D cy ad0 adV X A) (hE : nt_okE mi (pc, .isub, g, t) = true) (hs : nt_sx X mi g t .isub pc ls st M = some x') (kk : nt_Wd p l e R s m args below meth c mi n0 z0 D cy ad0 A Q x') : nt_Wd p l e R s m args below meth c mi n0 z0 D cy ad0 A Q (pc, ls, st, M) := by
  obtain ⟨hx, hb, hml, hown, hts, hA, hinit, hret, hlocks, hAm⟩ := C0
  obtain ⟨x, y, r, rfl, hs⟩ := nt_i2_some hs
  cases hs
  intro ad lsA H locs h1 hl hP hD hS
  exact lv_isub hx hb (nt_dec hE rfl) (kk ad lsA H locs h1 hl hP hD hS)
theorem nt_q_imul  (C0 : nt_At p s m args meth c mi D cy ad0 adV X A) (hE : nt_okE mi (pc, .imul, g, t) = true) (hs : nt_sx X mi g t .imul pc ls st M = some x') (kk : nt_Wd p l e R s m args below meth c mi n0 z0 D cy ad0 A Q x') : nt_Wd p l e R s m args below meth c mi n0 z0 D cy ad0 A Q (pc, ls, st, M) := by
  obtain ⟨hx, hb, hml, hown, hts, hA, hinit, hret, hlocks, hAm⟩ := C0
  obtain ⟨x, y, r, rfl, hs⟩ := nt_i2_some hs
  cases hs
  intro ad lsA H locs h1 hl hP hD hS
  exact lv_imul hx hb (nt_dec hE rfl) (kk ad lsA H locs h1 hl hP hD hS)
theorem nt_q_iand  (C0 : nt_At p s m args meth c mi D cy ad0 adV X A) (hE : nt_okE mi (pc, .iand, g, t) = true) (hs : nt_sx X mi g t .iand pc ls st M = some x') (kk : nt_Wd p l e R s m args below meth c mi n0 z0 D cy ad0 A Q x') : nt_Wd p l e R s m args below meth c mi n0 z0 D cy ad0 A Q (pc, ls, st, M) := by
  obtain ⟨hx, hb, hml, hown, hts, hA, hinit, hret, hlocks, hAm⟩ := C0
  obtain ⟨x, y, r, rfl, hs⟩ := nt_i2_some hs
  cases hs
  intro ad lsA H locs h1 hl hP hD hS
  exact lv_iand hx hb (nt_dec hE rfl) (kk ad lsA H locs h1 hl hP hD hS)
theorem nt_q_ior  (C0 : nt_At p s m args meth c mi D cy ad0 adV X A) (hE : nt_okE mi (pc, .ior, g, t) = true) (hs : nt_sx X mi g t .ior pc ls st M = some x') (kk : nt_Wd p l e R s m args below meth c mi n0 z0 D cy ad0 A Q x') : nt_Wd p l e R s m args below meth c mi n0 z0 D cy ad0 A Q (pc, ls, st, M) := by
  obtain ⟨hx, hb, hml, hown, hts, hA, hinit, hret, hlocks, hAm⟩ := C0
  obtain ⟨x, y, r, rfl, hs⟩ := nt_i2_some hs
  cases hs
  intro ad lsA H locs h1 hl hP hD hS
  exact lv_ior hx hb (nt_dec hE rfl) (kk ad lsA H locs h1 hl hP hD hS)
theorem nt_q_ishl  (C0 : nt_At p s m args meth c mi D cy ad0 adV X A) (hE : nt_okE mi (pc, .ishl, g, t) = true) (hs : nt_sx X mi g t .ishl pc ls st M = some x') (kk : nt_Wd p l e R s m args below meth c mi n0 z0 D cy ad0 A Q x') : nt_Wd p l e R s m args below meth c mi n0 z0 D cy ad0 A Q (pc, ls, st, M) := by
  obtain ⟨hx, hb, hml, hown, hts, hA, hinit, hret, hlocks, hAm⟩ := C0
  obtain ⟨x, y, r, rfl, hs⟩ := nt_i2_some hs
  cases hs
  intro ad lsA H locs h1 hl hP hD hS
  exact lv_ishl hx hb (nt_dec hE rfl) (kk ad lsA H locs h1 hl hP hD hS)
theorem nt_q_ishr  (C0 : nt_At p s m args meth c mi D cy ad0 adV X A) (hE : nt_okE mi (pc, .ishr, g, t) = true) (hs : nt_sx X mi g t .ishr pc ls st M = some x') (kk : nt_Wd p l e R s m args below meth c mi n0 z0 D cy ad0 A Q x') : nt_Wd p l e R s m args below meth c mi n0 z0 D cy ad0 A Q (pc, ls, st, M) := by
  obtain ⟨hx, hb, hml, hown, hts, hA, hinit, hret, hlocks, hAm⟩ := C0
  obtain ⟨x, y, r, rfl, hs⟩ := nt_i2_some hs
  cases hs
  intro ad lsA H locs h1 hl hP hD hS
  exact lv_ishr hx hb (nt_dec hE rfl) (kk ad lsA H locs h1 hl hP hD hS)
theorem nt_q_iushr  (C0 : nt_At p s m args meth c mi D cy ad0 adV X A) (hE : nt_okE mi (pc, .iushr, g, t) = true) (hs : nt_sx X mi g t .iushr pc ls st M = some x') (kk : nt_Wd p l e R s m args below meth c mi n0 z0 D cy ad0 A Q x') : nt_Wd p l e R s m args below meth c mi n0 z0 D cy ad0 A Q (pc, ls, st, M) := by
  obtain ⟨hx, hb, hml, hown, hts, hA, hinit, hret, hlocks, hAm⟩ := C0
  obtain ⟨x, y, r, rfl, hs⟩ := nt_i2_some hs
  cases hs
  intro ad lsA H locs h1 hl hP hD hS
  exact lv_iushr hx hb (nt_dec hE rfl) rfl (kk ad lsA H locs h1 hl hP hD hS)
theorem nt_q_idiv  (C0 : nt_At p s m args meth c mi D cy ad0 adV X A) (hE : nt_okE mi (pc, .idiv, g, t) = true) (hs : nt_sx X mi g t .idiv pc ls st M = some x') (kk : nt_Wd p l e R s m args below meth c mi n0 z0 D cy ad0 A Q x') : nt_Wd p l e R s m args below meth c mi n0 z0 D cy ad0 A Q (pc, ls, st, M) := by
  obtain ⟨hx, hb, hml, hown, hts, hA, hinit, hret, hlocks, hAm⟩ := C0
  obtain ⟨x, y, r, rfl, hs⟩ := nt_i2_some hs
  obtain ⟨h0, hs⟩ := nt_ifn_some hs
  cases hs
  intro ad lsA H locs h1 hl hP hD hS
  exact lv_idiv hx hb (nt_dec hE rfl) h0 (kk ad lsA H locs h1 hl hP hD hS)
theorem nt_q_irem  (C0 : nt_At p s m args meth c mi D cy ad0 adV X A) (hE : nt_okE mi (pc, .irem, g, t) = true) (hs : nt_sx X mi g t .irem pc ls st M = some x') (kk : nt_Wd p l e R s m args below meth c mi n0 z0 D cy ad0 A Q x') : nt_Wd p l e R s m args below meth c mi n0 z0 D cy ad0 A Q (pc, ls, st, M) := by
  obtain ⟨hx, hb, hml, hown, hts, hA, hinit, hret, hlocks, hAm⟩ := C0
  obtain ⟨x, y, r, rfl, hs⟩ := nt_i2_some hs
  obtain ⟨h0, hs⟩ := nt_ifn_some hs
  cases hs
  intro ad lsA H locs h1 hl hP hD hS
  exact lv_irem hx hb (nt_dec hE rfl) h0 (kk ad lsA H locs h1 hl hP hD hS)
theorem nt_q_ladd  (C0 : nt_At p s m args meth c mi D cy ad0 adV X A) (hE : nt_okE mi (pc, .ladd, g, t) = true) (hs : nt_sx X mi g t .ladd pc ls st M = some x') (kk : nt_Wd p l e R s m args below meth c mi n0 z0 D cy ad0 A Q x') : nt_Wd p l e R s m args below meth c mi n0 z0 D cy ad0 A Q (pc, ls, st, M) := by
  obtain ⟨hx, hb, hml, hown, hts, hA, hinit, hret, hlocks, hAm⟩ := C0
  obtain ⟨x, y, r, rfl, hs⟩ := nt_j2_some hs
  cases hs
  intro ad lsA H locs h1 hl hP hD hS
  exact lv_ladd hx hb (nt_dec hE rfl) (kk ad lsA H locs h1 hl hP hD hS)
theorem nt_q_lsub  (C0 : nt_At p s m args meth c mi D cy ad0 adV X A) (hE : nt_okE mi (pc, .lsub, g, t) = true) (hs : nt_sx X mi g t .lsub pc ls st M = some x') (kk : nt_Wd p l e R s m args below meth c mi n0 z0 D cy ad0 A Q x') : nt_Wd p l e R s m args below meth c mi n0 z0 D cy ad0 A Q (pc, ls, st, M) := by
  obtain ⟨hx, hb, hml, hown, hts, hA, hinit, hret, hlocks, hAm⟩ := C0
  obtain ⟨x, y, r, rfl, hs⟩ := nt_j2_some hs
  cases hs
  intro ad lsA H locs h1 hl hP hD hS
  exact lv_lsub hx hb (nt_dec hE rfl) (kk ad lsA H locs h1 hl hP hD hS)
theorem nt_q_lmul  (C0 : nt_At p s m args meth c mi D cy ad0 adV X A) (hE : nt_okE mi (pc, .lmul, g, t) = true) (hs : nt_sx X mi g t .lmul pc ls st M = some x') (kk : nt_Wd p l e R s m args below meth c mi n0 z0 D cy ad0 A Q x') : nt_Wd p l e R s m args below meth c mi n0 z0 D cy ad0 A Q (pc, ls, st, M) := by
  obtain ⟨hx, hb, hml, hown, hts, hA, hinit, hret, hlocks, hAm⟩ := C0
  obtain ⟨x, y, r, rfl, hs⟩ := nt_j2_some hs
  cases hs
  intro ad lsA H locs h1 hl hP hD hS
  exact lv_lmul hx hb (nt_dec hE rfl) (kk ad lsA H locs h1 hl hP hD hS)
theorem nt_q_land  (C0 : nt_At p s m args meth c mi D cy ad0 adV X A) (hE : nt_okE mi (pc, .land, g, t) = true) (hs : nt_sx X mi g t .land pc ls st M = some x') (kk : nt_Wd p l e R s m args below meth c mi n0 z0 D cy ad0 A Q x') : nt_Wd p l e R s m args below meth c mi n0 z0 D cy ad0 A Q (pc, ls, st, M) := by
  obtain ⟨hx, hb, hml, hown, hts, hA, hinit, hret, hlocks, hAm⟩ := C0
  obtain ⟨x, y, r, rfl, hs⟩ := nt_j2_some hs
  cases hs
  intro ad lsA H locs h1 hl hP hD hS
  exact lv_land hx hb (nt_dec hE rfl) (kk ad lsA H locs h1 hl hP hD hS)
theorem nt_q_lor  (C0 : nt_At p s m args meth c mi D cy ad0 adV X A) (hE : nt_okE mi (pc, .lor, g, t) = true) (hs : nt_sx X mi g t .lor pc ls st M = some x') (kk : nt_Wd p l e R s m args below meth c mi n0 z0 D cy ad0 A Q x') : nt_Wd p l e R s m args below meth c mi n0 z0 D cy ad0 A Q (pc, ls, st, M) := by
  obtain ⟨hx, hb, hml, hown, hts, hA, hinit, hret, hlocks, hAm⟩ := C0
  obtain ⟨x, y, r, rfl, hs⟩ := nt_j2_some hs
  cases hs
  intro ad lsA H locs h1 hl hP hD hS
  exact lv_lor hx hb (nt_dec hE rfl) (kk ad lsA H locs h1 hl hP hD hS)
theorem nt_q_ldiv  (C0 : nt_At p s m args meth c mi D cy ad0 adV X A) (hE : nt_okE mi (pc, .ldiv, g, t) = true) (hs : nt_sx X mi g t .ldiv pc ls st M = some x') (kk : nt_Wd p l e R s m args below meth c mi n0 z0 D cy ad0 A Q x') : nt_Wd p l e R s m args below meth c mi n0 z0 D cy ad0 A Q (pc, ls, st, M) := by
  obtain ⟨hx, hb, hml, hown, hts, hA, hinit, hret, hlocks, hAm⟩ := C0
  obtain ⟨x, y, r, rfl, hs⟩ := nt_j2_some hs
  obtain ⟨h0, hs⟩ := nt_ifn_some hs
  cases hs
  intro ad lsA H locs h1 hl hP hD hS
  exact lv_ldiv hx hb (nt_dec hE rfl) h0 (kk ad lsA H locs h1 hl hP hD hS)
theorem nt_q_lrem  (C0 : nt_At p s m args meth c mi D cy ad0 adV X A) (hE : nt_okE mi (pc, .lrem, g, t) = true) (hs : nt_sx X mi g t .lrem pc ls st M = some x') (kk : nt_Wd p l e R s m args below meth c mi n0 z0 D cy ad0 A Q x') : nt_Wd p l e R s m args below meth c mi n0 z0 D cy ad0 A Q (pc, ls, st, M) := by
  obtain ⟨hx, hb, hml, hown, hts, hA, hinit, hret, hlocks, hAm⟩ := C0
  obtain ⟨x, y, r, rfl, hs⟩ := nt_j2_some hs
  obtain ⟨h0, hs⟩ := nt_ifn_some hs
  cases hs
  intro ad lsA H locs h1 hl hP hD hS
  exact lv_lrem hx hb (nt_dec hE rfl) h0 (kk ad lsA H locs h1 hl hP hD hS)
theorem nt_q_lcmp  (C0 : nt_At p s m args meth c mi D cy ad0 adV X A) (hE : nt_okE mi (pc, .lcmp, g, t) = true) (hs : nt_sx X mi g t .lcmp pc ls st M = some x') (kk : nt_Wd p l e R s m args below meth c mi n0 z0 D cy ad0 A Q x') : nt_Wd p l e R s m args below meth c mi n0 z0 D cy ad0 A Q (pc, ls, st, M) := by
  obtain ⟨hx, hb, hml, hown, hts, hA, hinit, hret, hlocks, hAm⟩ := C0
  obtain ⟨x, y, r, rfl, hs⟩ := nt_j2_some hs
  cases hs
  intro ad lsA H locs h1 hl hP hD hS
  exact W.lcmp hx hb (nt_dec hE rfl) (kk ad lsA H locs h1 hl hP hD hS)
theorem nt_q_lshl  (C0 : nt_At p s m args meth c mi D cy ad0 adV X A) (hE : nt_okE mi (pc, .lshl, g, t) = true) (hs : nt_sx X mi g t .lshl pc ls st M = some x') (kk : nt_Wd p l e R s m args below meth c mi n0 z0 D cy ad0 A Q x') : nt_Wd p l e R s m args below meth c mi n0 z0 D cy ad0 A Q (pc, ls, st, M) := by
  obtain ⟨hx, hb, hml, hown, hts, hA, hinit, hret, hlocks, hAm⟩ := C0
  have hs : (match (generalizing := false) st with | .int y :: .long x :: r => some (pc + 1, ls, Value.long (x <<< (y.toInt64 &&& 63)) :: r, M) | _ => none) = some x' := hs
  split at hs
  · cases hs
    intro ad lsA H locs h1 hl hP hD hS
    exact lv_lshl hx hb (nt_dec hE rfl) rfl (kk ad lsA H locs h1 hl hP hD hS)
  · cases hs
theorem nt_q_i2l  (C0 : nt_At p s m args meth c mi D cy ad0 adV X A) (hE : nt_okE mi (pc, .i2l, g, t) = true) (hs : nt_sx X mi g t .i2l pc ls st M = some x') (kk : nt_Wd p l e R s m args below meth c mi n0 z0 D cy ad0 A Q x') : nt_Wd p l e R s m args below meth c mi n0 z0 D cy ad0 A Q (pc, ls, st, M) := by
  obtain ⟨hx, hb, hml, hown, hts, hA, hinit, hret, hlocks, hAm⟩ := C0
  obtain ⟨x, r, rfl, hs⟩ := nt_i1_some hs
  cases hs
  intro ad lsA H locs h1 hl hP hD hS
  exact lv_i2l hx hb (nt_dec hE rfl) rfl (kk ad lsA H locs h1 hl hP hD hS)
theorem nt_q_l2i  (C0 : nt_At p s m args meth c mi D cy ad0 adV X A) (hE : nt_okE mi (pc, .l2i, g, t) = true) (hs : nt_sx X mi g t .l2i pc ls st M = some x') (kk : nt_Wd p l e R s m args below meth c mi n0 z0 D cy ad0 A Q x') : nt_Wd p l e R s m args below meth c mi n0 z0 D cy ad0 A Q (pc, ls, st, M) := by
  obtain ⟨hx, hb, hml, hown, hts, hA, hinit, hret, hlocks, hAm⟩ := C0
  obtain ⟨x, r, rfl, hs⟩ := nt_j1_some hs
  cases hs
  intro ad lsA H locs h1 hl hP hD hS
  exact lv_l2i hx hb (nt_dec hE rfl) rfl (kk ad lsA H locs h1 hl hP hD hS)
theorem nt_q_i2b  (C0 : nt_At p s m args meth c mi D cy ad0 adV X A) (hE : nt_okE mi (pc, .i2b, g, t) = true) (hs : nt_sx X mi g t .i2b pc ls st M = some x') (kk : nt_Wd p l e R s m args below meth c mi n0 z0 D cy ad0 A Q x') : nt_Wd p l e R s m args below meth c mi n0 z0 D cy ad0 A Q (pc, ls, st, M) := by
  obtain ⟨hx, hb, hml, hown, hts, hA, hinit, hret, hlocks, hAm⟩ := C0
  obtain ⟨x, r, rfl, hs⟩ := nt_i1_some hs
  cases hs
  intro ad lsA H locs h1 hl hP hD hS
  exact lv_i2b hx hb (nt_dec hE rfl) rfl (kk ad lsA H locs h1 hl hP hD hS)
theorem nt_q_dup  (C0 : nt_At p s m args meth c mi D cy ad0 adV X A) (hE : nt_okE mi (pc, .dup, g, t) = true) (hs : nt_sx X mi g t .dup pc ls st M = some x') (kk : nt_Wd p l e R s m args below meth c mi n0 z0 D cy ad0 A Q x') : nt_Wd p l e R s m args below meth c mi n0 z0 D cy ad0 A Q (pc, ls, st, M) := by
  obtain ⟨hx, hb, hml, hown, hts, hA, hinit, hret, hlocks, hAm⟩ := C0
  have hs : (match (generalizing := false) st with | v :: r => if v.category = 1 then some (pc + 1, ls, v :: v :: r, M) else none | _ => none) = some x' := hs
  split at hs
  · obtain ⟨hc, hs⟩ := nt_if_some hs
    cases hs
    intro ad lsA H locs h1 hl hP hD hS
    exact lv_dup hx hb (nt_dec hE rfl) (by rw [nt_tv_cat]; exact hc) (kk ad lsA H locs h1 hl hP hD hS)
  · cases hs
theorem nt_q_pop  (C0 : nt_At p s m args meth c mi D cy ad0 adV X A) (hE : nt_okE mi (pc, .pop, g, t) = true) (hs : nt_sx X mi g t .pop pc ls st M = some x') (kk : nt_Wd p l e R s m args below meth c mi n0 z0 D cy ad0 A Q x') : nt_Wd p l e R s m args below meth c mi n0 z0 D cy ad0 A Q (pc, ls, st, M) := by
  obtain ⟨hx, hb, hml, hown, hts, hA, hinit, hret, hlocks, hAm⟩ := C0
  have hs : (match (generalizing := false) st with | v :: r => if v.category = 1 then some (pc + 1, ls, r, M) else none | _ => none) = some x' := hs
  split at hs
  · obtain ⟨hc, hs⟩ := nt_if_some hs
    cases hs
    intro ad lsA H locs h1 hl hP hD hS
    exact lv_pop hx hb (nt_dec hE rfl) (by rw [nt_tv_cat]; exact hc) (kk ad lsA H locs h1 hl hP hD hS)
  · cases hs
theorem nt_q_dup2  (C0 : nt_At p s m args meth c mi D cy ad0 adV X A) (hE : nt_okE mi (pc, .dup2, g, t) = true) (hs : nt_sx X mi g t .dup2 pc ls st M = some x') (kk : nt_Wd p l e R s m args below meth c mi n0 z0 D cy ad0 A Q x') : nt_Wd p l e R s m args below meth c mi n0 z0 D cy ad0 A Q (pc, ls, st, M) := by
  obtain ⟨hx, hb, hml, hown, hts, hA, hinit, hret, hlocks, hAm⟩ := C0
  have hs : (match (generalizing := false) st with | v :: w :: r => if v.category = 1 ∧ w.category = 1 then some (pc + 1, ls, v :: w :: v :: w :: r, M) else none | _ => none) = some x' := hs
  split at hs
  · obtain ⟨hc, hs⟩ := nt_if_some hs
    cases hs
    intro ad lsA H locs h1 hl hP hD hS
    exact lv_dup2_11 hx hb (nt_dec hE rfl) (by rw [nt_tv_cat]; exact hc.1) (by rw [nt_tv_cat]; exact hc.2) (kk ad lsA H locs h1 hl hP hD hS)
  · cases hs
theorem nt_q_if_eq {n : Int} (C0 : nt_At p s m args meth c mi D cy ad0 adV X A) (hE : nt_okE mi (pc, (.ifCond .eq n), g, t) = true) (hs : nt_sx X mi g t (.ifCond .eq n) pc ls st M = some x') (kk : nt_Wd p l e R s m args below meth c mi n0 z0 D cy ad0 A Q x') : nt_Wd p l e R s m args below meth c mi n0 z0 D cy ad0 A Q (pc, ls, st, M) := by
  obtain ⟨hx, hb, hml, hown, hts, hA, hinit, hret, hlocks, hAm⟩ := C0
  obtain ⟨x, r, rfl, hs⟩ := nt_i1_some hs
  cases hs
  intro ad lsA H locs h1 hl hP hD hS
  have kk := kk ad lsA H locs h1 hl hP hD hS
  dsimp only at kk
  exact lv_if_eq (tgt := t) hx hb (nt_dec hE rfl) (of_decide_eq_true (nt_okE_R hE)) (fun q => by rw [if_pos q] at kk; exact kk) (fun q => by rw [if_neg q] at kk; exact kk)
theorem nt_q_icmp_eq {n : Int} (C0 : nt_At p s m args meth c mi D cy ad0 adV X A) (hE : nt_okE mi (pc, (.if_icmp .eq n), g, t) = true) (hs : nt_sx X mi g t (.if_icmp .eq n) pc ls st M = some x') (kk : nt_Wd p l e R s m args below meth c mi n0 z0 D cy ad0 A Q x') : nt_Wd p l e R s m args below meth c mi n0 z0 D cy ad0 A Q (pc, ls, st, M) := by
  obtain ⟨hx, hb, hml, hown, hts, hA, hinit, hret, hlocks, hAm⟩ := C0
  obtain ⟨x, y, r, rfl, hs⟩ := nt_i2_some hs
  cases hs
  intro ad lsA H locs h1 hl hP hD hS
  have kk := kk ad lsA H locs h1 hl hP hD hS
  dsimp only at kk
  exact lv_icmp_eq (tgt := t) hx hb (nt_dec hE rfl) (of_decide_eq_true (nt_okE_R hE)) (fun q => by rw [if_pos q] at kk; exact kk) (fun q => by rw [if_neg q] at kk; exact kk)
theorem nt_q_if_ne {n : Int} (C0 : nt_At p s m args meth c mi D cy ad0 adV X A) (hE : nt_okE mi (pc, (.ifCond .ne n), g, t) = true) (hs : nt_sx X mi g t (.ifCond .ne n) pc ls st M = some x') (kk : nt_Wd p l e R s m args below meth c mi n0 z0 D cy ad0 A Q x') : nt_Wd p l e R s m args below meth c mi n0 z0 D cy ad0 A Q (pc, ls, st, M) := by
  obtain ⟨hx, hb, hml, hown, hts, hA, hinit, hret, hlocks, hAm⟩ := C0
  obtain ⟨x, r, rfl, hs⟩ := nt_i1_some hs
  cases hs
  intro ad lsA H locs h1 hl hP hD hS
  have kk := kk ad lsA H locs h1 hl hP hD hS
  dsimp only at kk
  exact lv_if_ne (tgt := t) hx hb (nt_dec hE rfl) (of_decide_eq_true (nt_okE_R hE)) (fun q => by rw [if_neg q] at kk; exact kk) (fun q => by rw [if_pos q] at kk; exact kk)
theorem nt_q_icmp_ne {n : Int} (C0 : nt_At p s m args meth c mi D cy ad0 adV X A) (hE : nt_okE mi (pc, (.if_icmp .ne n), g, t) = true) (hs : nt_sx X mi g t (.if_icmp .ne n) pc ls st M = some x') (kk : nt_Wd p l e R s m args below meth c mi n0 z0 D cy ad0 A Q x') : nt_Wd p l e R s m args below meth c mi n0 z0 D cy ad0 A Q (pc, ls, st, M) := by
  obtain ⟨hx, hb, hml, hown, hts, hA, hinit, hret, hlocks, hAm⟩ := C0
  obtain ⟨x, y, r, rfl, hs⟩ := nt_i2_some hs
  cases hs
  intro ad lsA H locs h1 hl hP hD hS
  have kk := kk ad lsA H locs h1 hl hP hD hS
  dsimp only at kk
  exact lv_icmp_ne (tgt := t) hx hb (nt_dec hE rfl) (of_decide_eq_true (nt_okE_R hE)) (fun q => by rw [if_neg q] at kk; exact kk) (fun q => by rw [if_pos q] at kk; exact kk)
theorem nt_q_if_lt {n : Int} (C0 : nt_At p s m args meth c mi D cy ad0 adV X A) (hE : nt_okE mi (pc, (.ifCond .lt n), g, t) = true) (hs : nt_sx X mi g t (.ifCond .lt n) pc ls st M = some x') (kk : nt_Wd p l e R s m args below meth c mi n0 z0 D cy ad0 A Q x') : nt_Wd p l e R s m args below meth c mi n0 z0 D cy ad0 A Q (pc, ls, st, M) := by
  obtain ⟨hx, hb, hml, hown, hts, hA, hinit, hret, hlocks, hAm⟩ := C0
  obtain ⟨x, r, rfl, hs⟩ := nt_i1_some hs
  cases hs
  intro ad lsA H locs h1 hl hP hD hS
  have kk := kk ad lsA H locs h1 hl hP hD hS
  dsimp only at kk
  exact lv_if_lt (tgt := t) hx hb (nt_dec hE rfl) (of_decide_eq_true (nt_okE_R hE)) (fun q => by rw [if_pos q] at kk; exact kk) (fun q => by rw [if_neg q] at kk; exact kk)
theorem nt_q_icmp_lt {n : Int} (C0 : nt_At p s m args meth c mi D cy ad0 adV X A) (hE : nt_okE mi (pc, (.if_icmp .lt n), g, t) = true) (hs : nt_sx X mi g t (.if_icmp .lt n) pc ls st M = some x') (kk : nt_Wd p l e R s m args below meth c mi n0 z0 D cy ad0 A Q x') : nt_Wd p l e R s m args below meth c mi n0 z0 D cy ad0 A Q (pc, ls, st, M) := by
  obtain ⟨hx, hb, hml, hown, hts, hA, hinit, hret, hlocks, hAm⟩ := C0
  obtain ⟨x, y, r, rfl, hs⟩ := nt_i2_some hs
  cases hs
  intro ad lsA H locs h1 hl hP hD hS
  have kk := kk ad lsA H locs h1 hl hP hD hS
  dsimp only at kk
  exact lv_icmp_lt (tgt := t) hx hb (nt_dec hE rfl) (of_decide_eq_true (nt_okE_R hE)) (fun q => by rw [if_pos q] at kk; exact kk) (fun q => by rw [if_neg q] at kk; exact kk)
theorem nt_q_if_ge {n : Int} (C0 : nt_At p s m args meth c mi D cy ad0 adV X A) (hE : nt_okE mi (pc, (.ifCond .ge n), g, t) = true) (hs : nt_sx X mi g t (.ifCond .ge n) pc ls st M = some x') (kk : nt_Wd p l e R s m args below meth c mi n0 z0 D cy ad0 A Q x') : nt_Wd p l e R s m args below meth c mi n0 z0 D cy ad0 A Q (pc, ls, st, M) := by
  obtain ⟨hx, hb, hml, hown, hts, hA, hinit, hret, hlocks, hAm⟩ := C0
  obtain ⟨x, r, rfl, hs⟩ := nt_i1_some hs
  cases hs
  intro ad lsA H locs h1 hl hP hD hS
  have kk := kk ad lsA H locs h1 hl hP hD hS
  dsimp only at kk
  exact lv_if_ge (tgt := t) hx hb (nt_dec hE rfl) (of_decide_eq_true (nt_okE_R hE)) (fun q => by rw [if_pos q] at kk; exact kk) (fun q => by rw [if_neg q] at kk; exact kk)
theorem nt_q_icmp_ge {n : Int} (C0 : nt_At p s m args meth c mi D cy ad0 adV X A) (hE : nt_okE mi (pc, (.if_icmp .ge n), g, t) = true) (hs : nt_sx X mi g t (.if_icmp .ge n) pc ls st M = some x') (kk : nt_Wd p l e R s m args below meth c mi n0 z0 D cy ad0 A Q x') : nt_Wd p l e R s m args below meth c mi n0 z0 D cy ad0 A Q (pc, ls, st, M) := by
  obtain ⟨hx, hb, hml, hown, hts, hA, hinit, hret, hlocks, hAm⟩ := C0
  obtain ⟨x, y, r, rfl, hs⟩ := nt_i2_some hs
  cases hs
  intro ad lsA H locs h1 hl hP hD hS
  have kk := kk ad lsA H locs h1 hl hP hD hS
  dsimp only at kk
  exact lv_icmp_ge (tgt := t) hx hb (nt_dec hE rfl) (of_decide_eq_true (nt_okE_R hE)) (fun q => by rw [if_pos q] at kk; exact kk) (fun q => by rw [if_neg q] at kk; exact kk)
theorem nt_q_if_gt {n : Int} (C0 : nt_At p s m args meth c mi D cy ad0 adV X A) (hE : nt_okE mi (pc, (.ifCond .gt n), g, t) = true) (hs : nt_sx X mi g t (.ifCond .gt n) pc ls st M = some x') (kk : nt_Wd p l e R s m args below meth c mi n0 z0 D cy ad0 A Q x') : nt_Wd p l e R s m args below meth c mi n0 z0 D cy ad0 A Q (pc, ls, st, M) := by
  obtain ⟨hx, hb, hml, hown, hts, hA, hinit, hret, hlocks, hAm⟩ := C0
  obtain ⟨x, r, rfl, hs⟩ := nt_i1_some hs
  cases hs
  intro ad lsA H locs h1 hl hP hD hS
  have kk := kk ad lsA H locs h1 hl hP hD hS
  dsimp only at kk
  exact lv_if_gt (tgt := t) hx hb (nt_dec hE rfl) (of_decide_eq_true (nt_okE_R hE)) (fun q => by rw [if_pos q] at kk; exact kk) (fun q => by rw [if_neg q] at kk; exact kk)
theorem nt_q_icmp_gt {n : Int} (C0 : nt_At p s m args meth c mi D cy ad0 adV X A) (hE : nt_okE mi (pc, (.if_icmp .gt n), g, t) = true) (hs : nt_sx X mi g t (.if_icmp .gt n) pc ls st M = some x') (kk : nt_Wd p l e R s m args below meth c mi n0 z0 D cy ad0 A Q x') : nt_Wd p l e R s m args below meth c mi n0 z0 D cy ad0 A Q (pc, ls, st, M) := by
  obtain ⟨hx, hb, hml, hown, hts, hA, hinit, hret, hlocks, hAm⟩ := C0
  obtain ⟨x, y, r, rfl, hs⟩ := nt_i2_some hs
  cases hs
  intro ad lsA H locs h1 hl hP hD hS
  have kk := kk ad lsA H locs h1 hl hP hD hS
  dsimp only at kk
  exact lv_icmp_gt (tgt := t) hx hb (nt_dec hE rfl) (of_decide_eq_true (nt_okE_R hE)) (fun q => by rw [if_pos q] at kk; exact kk) (fun q => by rw [if_neg q] at kk; exact kk)
theorem nt_q_if_le {n : Int} (C0 : nt_At p s m args meth c mi D cy ad0 adV X A) (hE : nt_okE mi (pc, (.ifCond .le n), g, t) = true) (hs : nt_sx X mi g t (.ifCond .le n) pc ls st M = some x') (kk : nt_Wd p l e R s m args below meth c mi n0 z0 D cy ad0 A Q x') : nt_Wd p l e R s m args below meth c mi n0 z0 D cy ad0 A Q (pc, ls, st, M) := by
  obtain ⟨hx, hb, hml, hown, hts, hA, hinit, hret, hlocks, hAm⟩ := C0
  obtain ⟨x, r, rfl, hs⟩ := nt_i1_some hs
  cases hs
  intro ad lsA H locs h1 hl hP hD hS
  have kk := kk ad lsA H locs h1 hl hP hD hS
  dsimp only at kk
  exact lv_if_le (tgt := t) hx hb (nt_dec hE rfl) (of_decide_eq_true (nt_okE_R hE)) (fun q => by rw [if_pos q] at kk; exact kk) (fun q => by rw [if_neg q] at kk; exact kk)
theorem nt_q_icmp_le {n : Int} (C0 : nt_At p s m args meth c mi D cy ad0 adV X A) (hE : nt_okE mi (pc, (.if_icmp .le n), g, t) = true) (hs : nt_sx X mi g t (.if_icmp .le n) pc ls st M = some x') (kk : nt_Wd p l e R s m args below meth c mi n0 z0 D cy ad0 A Q x') : nt_Wd p l e R s m args below meth c mi n0 z0 D cy ad0 A Q (pc, ls, st, M) := by
  obtain ⟨hx, hb, hml, hown, hts, hA, hinit, hret, hlocks, hAm⟩ := C0
  obtain ⟨x, y, r, rfl, hs⟩ := nt_i2_some hs
  cases hs
  intro ad lsA H locs h1 hl hP hD hS
  have kk := kk ad lsA H locs h1 hl hP hD hS
  dsimp only at kk
  exact lv_icmp_le (tgt := t) hx hb (nt_dec hE rfl) (of_decide_eq_true (nt_okE_R hE)) (fun q => by rw [if_pos q] at kk; exact kk) (fun q => by rw [if_neg q] at kk; exact kk)
theorem nt_q_ifnull {n : Int} (C0 : nt_At p s m args meth c mi D cy ad0 adV X A) (hE : nt_okE mi (pc, (.ifnull n), g, t) = true) (hs : nt_sx X mi g t (.ifnull n) pc ls st M = some x') (kk : nt_Wd p l e R s m args below meth c mi n0 z0 D cy ad0 A Q x') : nt_Wd p l e R s m args below meth c mi n0 z0 D cy ad0 A Q (pc, ls, st, M) := by
  obtain ⟨hx, hb, hml, hown, hts, hA, hinit, hret, hlocks, hAm⟩ := C0
  have hs : (match (generalizing := false) st with | .ref _ :: r => some (pc + 3, ls, r, M) | .null :: r => some (t, ls, r, M) | _ => none) = some x' := hs
  split at hs
  · cases hs
    intro ad lsA H locs h1 hl hP hD hS
    exact lv_ifnull hx hb (nt_dec hE rfl) (kk ad lsA H locs h1 hl hP hD hS)
  · cases hs
    intro ad lsA H locs h1 hl hP hD hS
    exact lv_ifnullN hx hb (nt_dec hE rfl) (of_decide_eq_true (nt_okE_R hE)) (kk ad lsA H locs h1 hl hP hD hS)
  · cases hs
theorem nt_q_ifnonnull {n : Int} (C0 : nt_At p s m args meth c mi D cy ad0 adV X A) (hE : nt_okE mi (pc, (.ifnonnull n), g, t) = true) (hs : nt_sx X mi g t (.ifnonnull n) pc ls st M = some x') (kk : nt_Wd p l e R s m args below meth c mi n0 z0 D cy ad0 A Q x') : nt_Wd p l e R s m args below meth c mi n0 z0 D cy ad0 A Q (pc, ls, st, M) := by
  obtain ⟨hx, hb, hml, hown, hts, hA, hinit, hret, hlocks, hAm⟩ := C0
  have hs : (match (generalizing := false) st with | .ref _ :: r => some (t, ls, r, M) | .null :: r => some (pc + 3, ls, r, M) | _ => none) = some x' := hs
  split at hs
  · cases hs
    intro ad lsA H locs h1 hl hP hD hS
    exact lv_ifnonnull hx hb (nt_dec hE rfl) (of_decide_eq_true (nt_okE_R hE)) (kk ad lsA H locs h1 hl hP hD hS)
  · cases hs
    intro ad lsA H locs h1 hl hP hD hS
    exact lv_ifnonnullN hx hb (nt_dec hE rfl) (kk ad lsA H locs h1 hl hP hD hS)
  · cases hs
theorem nt_q_tableswitch {dflt lo hi : Int} {offs : Array Int} (C0 : nt_At p s m args meth c mi D cy ad0 adV X A) (hE : nt_okE mi (pc, (.tableswitch dflt lo hi offs), g, t) = true) (hs : nt_sx X mi g t (.tableswitch dflt lo hi offs) pc ls st M = some x') (kk : nt_Wd p l e R s m args below meth c mi n0 z0 D cy ad0 A Q x') : nt_Wd p l e R s m args below meth c mi n0 z0 D cy ad0 A Q (pc, ls, st, M) := by
  obtain ⟨hx, hb, hml, hown, hts, hA, hinit, hret, hlocks, hAm⟩ := C0
  obtain ⟨x, r, rfl, hs⟩ := nt_i1_some hs
  obtain ⟨n, hdg⟩ := nt_decS hE
  have hs : (if x.toInt < lo ∨ hi < x.toInt then nt_jp pc dflt fun q => some (q, ls, r, M) else (match offs[(x.toInt - lo).toNat]? with | some off => nt_jp pc off fun q => some (q, ls, r, M) | none => none)) = some x' := hs
  split at hs
  · rename_i q
    obtain ⟨tg, ht, hs⟩ := nt_jp_some hs
    cases hs
    intro ad lsA H locs h1 hl hP hD hS
    exact lv_tableOut hx hb hdg q ht (kk ad lsA H locs h1 hl hP hD hS)
  · rename_i q
    split at hs
    · rename_i off ho
      obtain ⟨tg, ht, hs⟩ := nt_jp_some hs
      cases hs
      intro ad lsA H locs h1 hl hP hD hS
      exact lv_tableIn hx hb hdg (fun z => q (Or.inl z)) (fun z => q (Or.inr z)) ho ht (kk ad lsA H locs h1 hl hP hD hS)
    · cases hs
theorem nt_q_lookupswitch {dflt : Int} {ps : Array (Int × Int)} (C0 : nt_At p s m args meth c mi D cy ad0 adV X A) (hE : nt_okE mi (pc, (.lookupswitch dflt ps), g, t) = true) (hs : nt_sx X mi g t (.lookupswitch dflt ps) pc ls st M = some x') (kk : nt_Wd p l e R s m args below meth c mi n0 z0 D cy ad0 A Q x') : nt_Wd p l e R s m args below meth c mi n0 z0 D cy ad0 A Q (pc, ls, st, M) := by
  obtain ⟨hx, hb, hml, hown, hts, hA, hinit, hret, hlocks, hAm⟩ := C0
  obtain ⟨x, r, rfl, hs⟩ := nt_i1_some hs
  obtain ⟨n, hdg⟩ := nt_decS hE
  obtain ⟨hp, hs⟩ := nt_if_some hs
  obtain ⟨tg, ht, hs⟩ := nt_jp_some hs
  cases hs
  intro ad lsA H locs h1 hl hP hD hS
  exact lv_lookup hx hb hdg hp rfl ht (kk ad lsA H locs h1 hl hP hD hS)
end NTS
