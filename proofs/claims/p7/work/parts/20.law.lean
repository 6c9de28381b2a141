/-! the law out of a run of the small machine -/
theorem nt_arrK {s : State} {args : Array Value} {ty : FieldType} (hp : refKind ty = false) (h : (Cond.arrayClass ty).before args s = true) : ∃ c, ArrOfT s c ty ∧ s.vm.findClass ("[" ++ ty.toString) = some c := by
  obtain ⟨c, k, comp, h1, h2, h3⟩ := Cond.arrayClass_spec h
  exact ⟨c, fun n z => ⟨fun _ => by simp [arrV], k, h2, comp, h3⟩, h1⟩
theorem nt_arrO {s : State} {C : String} (h : va_AO C s) : ∃ c, ArrOfT s c (.object C) ∧ va_RA s c (.object C) := by
  obtain ⟨comp, c, k, h1, h2, h3, h4, h5⟩ := Cond.arrayOver_spec h
  exact ⟨c, fun n z => ⟨fun _ => by simp [arrV], k, h3, comp, h4⟩, ⟨k, comp, h3, h4, h1, h5⟩⟩
theorem nt_am_start {s : State} {b L : Nat} {xs : Nat → Int32} (hts : ∀ w ∈ lw_tbl, w.before #[Value.ref b] s = true) (hX : va_X b L xs s s.heap) (hbl : b < s.heap.size) (hgv : (Jvm.Cond.and given_1 narrow_1).before #[Value.ref b] s = true) : ∃ (D : va_G) (cy ad0 adV : Nat → Nat), ad0 nt_sp = b ∧ nt_Am D cy ad0 adV (L, xs) (fun q => s.heap.size ≤ q) s s.heap := by
  have hws : ∀ w ∈ nt_ws, w.before #[Value.ref b] s = true := fun w hw => hts w (List.mem_filter.mp hw).1
  have htb : ∀ w ∈ tables_1, w.before #[Value.ref b] s = true := fun w hw => hts w (List.mem_append_right _ hw)
  have hG : ∀ w ∈ nt_G, w.before #[Value.ref b] s = true := flat_of_before _ hgv
  have hA : ∀ a : Nat, a < s.heap.size → ¬ (fun q : Nat => s.heap.size ≤ q) a := fun a h => Nat.not_le.mpr h
  have hcls : ∀ c : Nat, ∃ q : ClassId × (Nat → Nat), c < 12 → u_Kn s (nt_RN c) (nt_T c) (nt_N c) q.1 q.2 := by
    intro c
    by_cases hc : c < 12
    · obtain ⟨f1, f2, f3, f4, f5, f6, f7⟩ := nt_cf hc
      obtain ⟨cC, iS, h⟩ := u_known hws f1 (hws _ f6)
      exact ⟨(cC, iS), fun _ => h⟩
    · exact ⟨(0, fun _ => 0), fun h => absurd h hc⟩
  obtain ⟨dq, hdq⟩ := Classical.axiomOfChoice hcls
  have ao4 : va_AO (nt_RN 4) s := va_AO.of (htb _ nt_t_a4)
  have ao6 : va_AO (nt_RN 6) s := va_AO.of (htb _ nt_t_a6)
  obtain ⟨c12, a12, r12⟩ := nt_arrK (ty := .byte) rfl (hws _ nt_ac_byte)
  obtain ⟨c13, a13, r13⟩ := nt_arrK (ty := .int) rfl (hws _ nt_ac_int)
  obtain ⟨c14, a14, r14⟩ := nt_arrK (ty := .long) rfl (hws _ nt_ac_long)
  obtain ⟨c15, a15, r15⟩ := nt_arrK (ty := .boolean) rfl (hws _ nt_ac_boolean)
  obtain ⟨c16, a16, r16⟩ := nt_arrO ao4
  obtain ⟨c17, a17, r17⟩ := nt_arrO ao6
  obtain ⟨adK, adV, hS, hev⟩ := vk_Sof (args := #[Value.ref b]) (s := s) (N := 18) (tm := nt_tm) (len := nt_SB.map List.length) (byt := nt_SB) (A := fun q => s.heap.size ≤ q)
    (fun i hi => by have q : ∀ i, i < 18 → (nt_SB.map List.length).getD i 0 < 2 ^ 31 := by decide +kernel
                    exact q i hi)
    (fun i hi => by
      have q := nt_ck1_ok hi
      unfold nt_ck1 at q
      simp only [Bool.and_eq_true, List.all_eq_true] at q
      exact hG _ (nt_pc_in q.1))
    (fun i hi => by
      have q := nt_ck1_ok hi
      unfold nt_ck1 at q
      simp only [Bool.and_eq_true, List.all_eq_true] at q
      exact hG _ (nt_pc_in q.2.1))
    (fun i hi => by
      have q := nt_ck1_ok hi
      unfold nt_ck1 at q
      simp only [Bool.and_eq_true, List.all_eq_true] at q
      exact hG _ (nt_pc_in q.2.2.1))
    (fun i hi => by
      have q := nt_ck1_ok hi
      unfold nt_ck1 at q
      simp only [Bool.and_eq_true, List.all_eq_true] at q
      exact hG _ (nt_pc_in q.2.2.2.1))
    (fun i hi j hj => by
      have q := nt_ck1_ok hi
      unfold nt_ck1 at q
      simp only [Bool.and_eq_true, List.all_eq_true] at q
      exact hG _ (nt_pc_in (q.2.2.2.2 j (List.mem_range.mpr hj))))
    (fun i j hi hj hij => by
      have q := nt_ck2_ok hi
      unfold nt_ck2 at q
      have q := List.all_eq_true.mp q j (List.mem_range.mpr hj)
      rw [Bool.or_eq_true, Bool.or_eq_true, decide_eq_true_eq] at q
      rcases q with q | q | q
      · exact absurd q.symm hij
      · exact Or.inl (hG _ (nt_pc_in q))
      · exact Or.inr (hG _ (nt_pc_in q))) hA
  refine ⟨(fun c => (dq c).1, fun c => (dq c).2), fun k => if k = 12 then c12 else if k = 13 then c13 else if k = 14 then c14 else if k = 15 then c15 else if k = 16 then c16 else c17, fun k => if k = nt_sp then b else adK (k - (nt_sp + 1)), adV, if_pos rfl, ⟨fun c q hq => ?_, fun k q hq => ?_⟩, ?_, ?_, ?_, fun e he => ?_, ao4, ao6, fun e he => ?_, ?_, ?_, ?_⟩
  · have hc : c < 12 := by
      have h := (List.getElem?_eq_some_iff.mp hq).1
      unfold nt_cl at h
      rw [List.length_map, List.length_range] at h
      exact h
    rw [nt_cl_get hc] at hq
    cases hq
    exact hdq c hc
  · rcases (by
      have h := (List.getElem?_eq_some_iff.mp hq).1
      have h : k < 6 := h
      omega : k = 0 ∨ k = 1 ∨ k = 2 ∨ k = 3 ∨ k = 4 ∨ k = 5) with rfl | rfl | rfl | rfl | rfl | rfl
    · cases hq; exact ⟨a12, r12⟩
    · cases hq; exact ⟨a13, r13⟩
    · cases hq; exact ⟨a14, r14⟩
    · cases hq; exact ⟨a15, r15⟩
    · cases hq; exact ⟨a16, r16⟩
    · cases hq; exact ⟨a17, r17⟩
  · show va_X (if nt_sp = nt_sp then b else adK (nt_sp - (nt_sp + 1))) L xs s s.heap
    rw [if_pos rfl]
    exact hX
  · show (if nt_sp = nt_sp then b else adK (nt_sp - (nt_sp + 1))) < s.heap.size
    rw [if_pos rfl]
    exact hbl
  · show ¬ s.heap.size ≤ (if nt_sp = nt_sp then b else adK (nt_sp - (nt_sp + 1)))
    rw [if_pos rfl]
    exact Nat.not_le.mpr hbl
  · exact va_Nw.of rfl (htb _ (List.mem_of_getElem? (of_decide_eq_true (List.all_eq_true.mp nt_NL_ok e he))))
  · obtain ⟨k, hk⟩ := List.getElem?_of_mem he
    have hk20 : k < 20 := (List.getElem?_eq_some_iff.mp hk).1
    have q := nt_rg nt_k3 (Nat.zero_le k) (by omega : k < 0 + 20)
    unfold nt_ck3 at q
    rw [hk] at q
    cases hz : nt_SO[k]? with
    | none => rw [hz] at q; cases q
    | some z =>
      rw [hz] at q
      simp only [Bool.and_eq_true, decide_eq_true_eq] at q
      obtain ⟨q1, q2, q3⟩ := q
      have hw := htb _ (List.mem_of_getElem? q3)
      have e1 : (if nt_sp + 1 + e.2.2.1 = nt_sp then b else adK (nt_sp + 1 + e.2.2.1 - (nt_sp + 1))) = adK e.2.2.1 := by
        rw [if_neg (by omega), Nat.add_sub_cancel_left]
      have hee := hev e.2.2.1 q2
      show vk_R _ _ _ (if nt_sp + 1 + e.2.2.1 = nt_sp then b else adK (nt_sp + 1 + e.2.2.1 - (nt_sp + 1))) s
      rw [e1]
      refine vk_R.of (A := #[Value.ref b]) hw ?_
      by_cases z0 : z.1 = 0
      · rw [if_pos z0] at q1
        rw [of_decide_eq_true q1]
        exact hee
      · rw [if_neg z0] at q1
        by_cases z1 : z.1 = 1
        · rw [if_pos z1] at q1
          obtain ⟨v, h1, h2⟩ := Cond.eq_one (show (Cond.eq _ _).holds #[Value.ref b] s none s [] = true from hG _ (nt_pc_in q1))
          rw [hee] at h1
          cases h1
          exact h2
        · rw [if_neg z1] at q1
          obtain ⟨v, h1, h2⟩ := Cond.eq_one (show (Cond.eq _ _).holds #[Value.ref b] s none s [] = true from hG _ (nt_pc_in q1))
          rw [hee] at h2
          cases h2
          exact h1
  · have e2 : (fun i => (fun k => if k = nt_sp then b else adK (k - (nt_sp + 1))) (nt_sp + 1 + i)) = adK := by
      funext i
      show (if nt_sp + 1 + i = nt_sp then b else adK (nt_sp + 1 + i - (nt_sp + 1))) = adK i
      rw [if_neg (by omega), Nat.add_sub_cancel_left]
    rw [e2]
    exact hS
  · exact va_Zof (htb _ nt_t_z1) (hws _ nt_s_n1) (va_eqt (hG _ nt_g_z1)) hA
  · exact va_Zqof (htb _ nt_t_z2) (hws _ nt_s_n3) (hG _ nt_g_z2) hA
/-- the empty memory -/
def nt_M0 : nt_M := ((0, 0), fun _ => 0, fun _ => 0, fun _ _ => 0, fun _ _ => 0, fun _ _ => none)
/-- WHAT IS LEFT: a run of the small machine over the law -/
def nt_Pure (L : Nat) (xs : Nat → Int32) : Prop := ∃ (f d : Nat) (M' : nt_M), d ≤ 1000 ∧ nt_ex (L, xs) f d 239 (0, [(0, .ref nt_sp)], [], nt_M0) = some (some (.int 1), M') ∧ nt_n M' ≤ 600000 ∧ nt_z M' ≤ 7302250
