/-! calls that make no frame of the small machine -/
def nt_iv (q i : Nat) : Instr := match q with
  | 0 => .invokestatic i
  | 1 => .invokevirtual i
  | _ => .invokespecial i
theorem nt_ct_map (ad : Nat → Nat) (r : List Value) : ((r.map (nt_tv ad)).map fun v => v.category).sum = nt_ct r := by
  unfold nt_ct
  rw [List.map_map]
  congr 1
  exact List.map_congr_left (fun v _ => nt_tv_cat ad v)
theorem nt_vm_wI {M : nt_M} {a : Nat} {f : Nat → Int32} (h : nt_vm M) (hf : nt_k M a = 15 → ∀ j, fits .boolean (.int (f j)) = true) : nt_vm (nt_wI M a f) := ⟨h.1, fun b hb j => by
  have e : nt_I (nt_wI M a f) b = if b = a then f else nt_I M b := rfl
  rw [e]
  split
  · rename_i q
    exact hf (by rw [← q]; exact hb) j
  · exact h.2 b hb j⟩
section NTN
variable {p : Program} {l : Launch} {e : Env} {R : Room} {s : State} {m : MethodId} {args : Array Value} {below : List Frame} {meth : Method} {c : Code} {mi n0 z0 : Nat} {D : va_G} {cy ad0 adV : Nat → Nat} {X : nt_X} {A : Nat → Prop} {Q : State → Prop} {g t pc : Nat} {ls : nt_V} {st : List Value} {M : nt_M} {x' : nt_C}
theorem nt_n_init {i d : Nat} {a : Nat} {r : List Value} (C0 : nt_At p s m args meth c mi D cy ad0 adV X A) (hd : decode (nt_m mi).2.1 pc = .ok (.invokespecial i, 3)) (hlk : Cond.methodLink (nt_RN (nt_m mi).2.2.2.2.1) i objectInit ∈ nt_ws) (hR : d ≤ R.frames ∧ 64 * d ≤ R.locals) (h1d : 1 ≤ d) (hct : nt_ct r ≤ 8) (kk : nt_Wd p l e R s m args below meth c mi n0 z0 D cy ad0 A Q (pc + 3, ls, r, M)) : nt_Wd p l e R s m args below meth c mi n0 z0 D cy ad0 A Q (pc, ls, .ref a :: r, M) := by
  obtain ⟨hx, hb, hml, hown, hts, hA, hinit, hret, hlocks, hAm⟩ := C0
  intro ad lsA H locs h1 hl hP hD hS
  refine W.objInit (g := F0 m pc lsA ((Value.ref a :: r).map (nt_tv ad))) (a := ad a) (rest := r.map (nt_tv ad)) hx hb hown (hts _ hlk) (hts _ nt_oi1) (hts _ nt_oi2) rfl (by rw [hml]; exact hl.1) rfl hd (by omega) ?_ (kk ad lsA H locs h1 hl hP hD hS)
  rw [nt_ct_map]
  show 2 * 0 + nt_ct r + 12 ≤ R.locals
  omega
theorem nt_n_max {i d : Nat} {x y : Int32} {r : List Value} (C0 : nt_At p s m args meth c mi D cy ad0 adV X A) (hd : decode (nt_m mi).2.1 pc = .ok (.invokestatic i, 3)) (hlk : Cond.methodLink (nt_RN (nt_m mi).2.2.2.2.1) i Lib.Math.max.name ∈ nt_ws) (hR : d ≤ R.frames ∧ 64 * d ≤ R.locals) (hRc : nt_n M - n0 ≤ R.cells ∧ nt_z M - z0 ≤ R.slots) (h1d : 1 ≤ d) (hct : nt_ct r ≤ 8) (kk : nt_Wd p l e R s m args below meth c mi n0 z0 D cy ad0 A Q (pc + 3, ls, .int (if x < y then y else x) :: r, M)) : nt_Wd p l e R s m args below meth c mi n0 z0 D cy ad0 A Q (pc, ls, .int y :: .int x :: r, M) := by
  obtain ⟨hx, hb, hml, hown, hts, hA, hinit, hret, hlocks, hAm⟩ := C0
  intro ad lsA H locs h1 hl hP hD hS
  exact va_mmax (rest := r.map (nt_tv ad)) hx hb (by rw [hml]; exact hl.1.symm) hown (hts _ hlk) (hts _ nt_mx1) (hts _ nt_mx3) (hts _ nt_mx2) (by omega) (by rw [nt_ct_map]; omega) hRc.1 hRc.2 hd (kk ad lsA H locs h1 hl hP hD hS)
theorem nt_n_min {i d : Nat} {x y : Int32} {r : List Value} (C0 : nt_At p s m args meth c mi D cy ad0 adV X A) (hd : decode (nt_m mi).2.1 pc = .ok (.invokestatic i, 3)) (hlk : Cond.methodLink (nt_RN (nt_m mi).2.2.2.2.1) i Lib.Math.min.name ∈ nt_ws) (hR : d ≤ R.frames ∧ 64 * d ≤ R.locals) (hRc : nt_n M - n0 ≤ R.cells ∧ nt_z M - z0 ≤ R.slots) (h1d : 1 ≤ d) (hct : nt_ct r ≤ 8) (kk : nt_Wd p l e R s m args below meth c mi n0 z0 D cy ad0 A Q (pc + 3, ls, .int (if y < x then y else x) :: r, M)) : nt_Wd p l e R s m args below meth c mi n0 z0 D cy ad0 A Q (pc, ls, .int y :: .int x :: r, M) := by
  obtain ⟨hx, hb, hml, hown, hts, hA, hinit, hret, hlocks, hAm⟩ := C0
  intro ad lsA H locs h1 hl hP hD hS
  exact va_mmin (rest := r.map (nt_tv ad)) hx hb (by rw [hml]; exact hl.1.symm) hown (hts _ hlk) (hts _ nt_mn1) (hts _ nt_mx3) (hts _ nt_mn2) (by omega) (by rw [nt_ct_map]; omega) hRc.1 hRc.2 hd (kk ad lsA H locs h1 hl hP hD hS)
theorem nt_n_copy {i d a0 a1 : Nat} {sp dp n : Int32} {r : List Value} (C0 : nt_At p s m args meth c mi D cy ad0 adV X A) (hd : decode (nt_m mi).2.1 pc = .ok (.invokestatic i, 3)) (hlk : Cond.methodLink (nt_RN (nt_m mi).2.2.2.2.1) i arraycopyName ∈ nt_ws) (hR : d ≤ R.frames ∧ 64 * d ≤ R.locals) (h1d : 1 ≤ d) (hct : nt_ct r ≤ 8) (hvm : nt_vm M) (ha0 : a0 < nt_n M) (ha1 : a1 < nt_n M) (hk : nt_k M a0 = nt_k M a1) (hkk : nt_k M a0 = 13 ∨ nt_k M a0 = 15) (g1 : ¬ sp < 0) (g2 : ¬ dp < 0) (g3 : ¬ n < 0) (g4 : sp.toNatClampNeg + n.toNatClampNeg ≤ nt_l M a0) (g5 : dp.toNatClampNeg + n.toNatClampNeg ≤ nt_l M a1) (kk : nt_Wd p l e R s m args below meth c mi n0 z0 D cy ad0 A Q (pc + 3, ls, r, nt_wI M a1 (va_cpy (nt_I M a0) (nt_I M a1) sp.toNatClampNeg dp.toNatClampNeg n.toNatClampNeg))) : nt_Wd p l e R s m args below meth c mi n0 z0 D cy ad0 A Q (pc, ls, .int n :: .int dp :: .ref a1 :: .int sp :: .ref a0 :: r, M) := by
  obtain ⟨hx, hb, hml, hown, hts, hA, hinit, hret, hlocks, hAm⟩ := C0
  intro ad lsA H locs h1 hl hP hD hS
  have he0 := nt_w_get (cy := cy) (ad := ad) ha0
  have he1 := nt_w_get (cy := cy) (ad := ad) ha1
  rw [nt_E_i (by omega)] at he0 he1
  have hw : nt_w cy ad (nt_wI M a1 (va_cpy (nt_I M a0) (nt_I M a1) sp.toNatClampNeg dp.toNatClampNeg n.toNatClampNeg)) = (nt_w cy ad M).set a1 (ad a1, .inl (cy (nt_k M a1), nt_l M a1, .inl (va_cpy (nt_I M a0) (nt_I M a1) sp.toNatClampNeg dp.toNatClampNeg n.toNatClampNeg))) := by
    rw [nt_w_wI, nt_E_i (by show nt_k M a1 = 12 ∨ nt_k M a1 = 13 ∨ nt_k M a1 = 15; omega)]
    have e1 : nt_I (nt_wI M a1 (va_cpy (nt_I M a0) (nt_I M a1) sp.toNatClampNeg dp.toNatClampNeg n.toNatClampNeg)) a1 = va_cpy (nt_I M a0) (nt_I M a1) sp.toNatClampNeg dp.toNatClampNeg n.toNatClampNeg := if_pos rfl
    rw [e1]
    rfl
  rw [hk] at he0
  have hlo : ((r.map (nt_tv ad)).map fun v => v.category).sum + (nativeFrameWords "java/lang/System" "arraycopy" 5 + 11) ≤ R.locals := by
    rw [nt_ct_map]
    have q : nativeFrameWords "java/lang/System" "arraycopy" 5 + 11 ≤ 56 := by decide
    omega
  rcases hkk with e1 | e1
  · have e2 : nt_k M a1 = 13 := by omega
    rw [e2] at he0 he1 hw
    exact va_copyi hx hb (by rw [hml]; exact hl.1.symm) hown (hts _ hlk) (hts _ nt_cy1) (hts _ nt_cy2) (hts _ nt_cy3) hAm.1 hP hD hS a0 a1 1 1 he0 he1 rfl rfl rfl g1 g2 g3 g4 g5 (fun _ _ => rfl) (by omega) hlo hd (fun H1 locs1 hP1 hD1 hS1 => kk ad lsA H1 locs1 h1 hl (by show va_P D nt_cl (nt_w cy ad _) H1; rw [hw]; exact hP1) (by show va_D A (nt_w cy ad _); rw [hw]; exact hD1) hS1)
  · have e2 : nt_k M a1 = 15 := by omega
    rw [e2] at he0 he1 hw
    exact va_copyi hx hb (by rw [hml]; exact hl.1.symm) hown (hts _ hlk) (hts _ nt_cy1) (hts _ nt_cy2) (hts _ nt_cy3) hAm.1 hP hD hS a0 a1 3 3 he0 he1 rfl rfl rfl g1 g2 g3 g4 g5 (fun i _ => hvm.2 a0 e1 _) (by omega) hlo hd (fun H1 locs1 hP1 hD1 hS1 => kk ad lsA H1 locs1 h1 hl (by show va_P D nt_cl (nt_w cy ad _) H1; rw [hw]; exact hP1) (by show va_D A (nt_w cy ad _); rw [hw]; exact hD1) hS1)
end NTN
