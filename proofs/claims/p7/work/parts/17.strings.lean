/-! texts: their length and their letters -/
def nt_y_len : MethodName := ⟨"java/lang/String", "length", "()I"⟩
abbrev nt_b_len : ByteArray := prog_17_method_54_code
theorem nt_d_len_0 : decode nt_b_len 0 = .ok (.aload_n 0, 1) := by decide +kernel
theorem nt_d_len_1 : decode nt_b_len 1 = .ok (.getfield 9, 3) := by decide +kernel
theorem nt_d_len_4 : decode nt_b_len 4 = .ok (.arraylength, 1) := by decide +kernel
theorem nt_d_len_5 : decode nt_b_len 5 = .ok (.aload_n 0, 1) := by decide +kernel
theorem nt_d_len_6 : decode nt_b_len 6 = .ok (.invokevirtual 335, 3) := by decide +kernel
theorem nt_d_len_9 : decode nt_b_len 9 = .ok (.ishr, 1) := by decide +kernel
theorem nt_d_len_10 : decode nt_b_len 10 = .ok (.ireturn, 1) := by decide +kernel
def nt_y_cod : MethodName := ⟨"java/lang/String", "coder", "()B"⟩
abbrev nt_b_cod : ByteArray := prog_17_method_152_code
theorem nt_d_cod_0 : decode nt_b_cod 0 = .ok (.getstatic 38, 3) := by decide +kernel
theorem nt_d_cod_3 : decode nt_b_cod 3 = .ok (.ifCond .eq 10, 3) := by decide +kernel
theorem nt_d_cod_6 : decode nt_b_cod 6 = .ok (.aload_n 0, 1) := by decide +kernel
theorem nt_d_cod_7 : decode nt_b_cod 7 = .ok (.getfield 15, 3) := by decide +kernel
theorem nt_d_cod_10 : decode nt_b_cod 10 = .ok (.goto 4, 3) := by decide +kernel
theorem nt_d_cod_13 : decode nt_b_cod 13 = .ok (.iconst 1, 1) := by decide +kernel
theorem nt_d_cod_14 : decode nt_b_cod 14 = .ok (.ireturn, 1) := by decide +kernel
def nt_y_chr : MethodName := ⟨"java/lang/String", "charAt", "(I)C"⟩
abbrev nt_b_chr : ByteArray := prog_17_method_56_code
theorem nt_d_chr_0 : decode nt_b_chr 0 = .ok (.aload_n 0, 1) := by decide +kernel
theorem nt_d_chr_1 : decode nt_b_chr 1 = .ok (.invokevirtual 492, 3) := by decide +kernel
theorem nt_d_chr_4 : decode nt_b_chr 4 = .ok (.ifCond .eq 12, 3) := by decide +kernel
theorem nt_d_chr_7 : decode nt_b_chr 7 = .ok (.aload_n 0, 1) := by decide +kernel
theorem nt_d_chr_8 : decode nt_b_chr 8 = .ok (.getfield 9, 3) := by decide +kernel
theorem nt_d_chr_11 : decode nt_b_chr 11 = .ok (.iload_n 1, 1) := by decide +kernel
theorem nt_d_chr_12 : decode nt_b_chr 12 = .ok (.invokestatic 495, 3) := by decide +kernel
theorem nt_d_chr_15 : decode nt_b_chr 15 = .ok (.ireturn, 1) := by decide +kernel
theorem nt_d_chr_16 : decode nt_b_chr 16 = .ok (.aload_n 0, 1) := by decide +kernel
theorem nt_d_chr_17 : decode nt_b_chr 17 = .ok (.getfield 9, 3) := by decide +kernel
theorem nt_d_chr_20 : decode nt_b_chr 20 = .ok (.iload_n 1, 1) := by decide +kernel
theorem nt_d_chr_21 : decode nt_b_chr 21 = .ok (.invokestatic 498, 3) := by decide +kernel
theorem nt_d_chr_24 : decode nt_b_chr 24 = .ok (.ireturn, 1) := by decide +kernel
def nt_y_lat : MethodName := ⟨"java/lang/String", "isLatin1", "()Z"⟩
abbrev nt_b_lat : ByteArray := prog_17_method_154_code
theorem nt_d_lat_0 : decode nt_b_lat 0 = .ok (.getstatic 38, 3) := by decide +kernel
theorem nt_d_lat_3 : decode nt_b_lat 3 = .ok (.ifCond .eq 14, 3) := by decide +kernel
theorem nt_d_lat_6 : decode nt_b_lat 6 = .ok (.aload_n 0, 1) := by decide +kernel
theorem nt_d_lat_7 : decode nt_b_lat 7 = .ok (.getfield 15, 3) := by decide +kernel
theorem nt_d_lat_10 : decode nt_b_lat 10 = .ok (.ifCond .ne 7, 3) := by decide +kernel
theorem nt_d_lat_13 : decode nt_b_lat 13 = .ok (.iconst 1, 1) := by decide +kernel
theorem nt_d_lat_14 : decode nt_b_lat 14 = .ok (.goto 4, 3) := by decide +kernel
theorem nt_d_lat_17 : decode nt_b_lat 17 = .ok (.iconst 0, 1) := by decide +kernel
theorem nt_d_lat_18 : decode nt_b_lat 18 = .ok (.ireturn, 1) := by decide +kernel
def nt_y_lch : MethodName := ⟨"java/lang/StringLatin1", "charAt", "([BI)C"⟩
abbrev nt_b_lch : ByteArray := prog_18_method_2_code
theorem nt_d_lch_0 : decode nt_b_lch 0 = .ok (.iload_n 1, 1) := by decide +kernel
theorem nt_d_lch_1 : decode nt_b_lch 1 = .ok (.aload_n 0, 1) := by decide +kernel
theorem nt_d_lch_2 : decode nt_b_lch 2 = .ok (.arraylength, 1) := by decide +kernel
theorem nt_d_lch_3 : decode nt_b_lch 3 = .ok (.invokestatic 9, 3) := by decide +kernel
theorem nt_d_lch_6 : decode nt_b_lch 6 = .ok (.aload_n 0, 1) := by decide +kernel
theorem nt_d_lch_7 : decode nt_b_lch 7 = .ok (.iload_n 1, 1) := by decide +kernel
theorem nt_d_lch_8 : decode nt_b_lch 8 = .ok (.baload, 1) := by decide +kernel
theorem nt_d_lch_9 : decode nt_b_lch 9 = .ok (.sipush 255, 3) := by decide +kernel
theorem nt_d_lch_12 : decode nt_b_lch 12 = .ok (.iand, 1) := by decide +kernel
theorem nt_d_lch_13 : decode nt_b_lch 13 = .ok (.i2c, 1) := by decide +kernel
theorem nt_d_lch_14 : decode nt_b_lch 14 = .ok (.ireturn, 1) := by decide +kernel
def nt_y_chk : MethodName := ⟨"java/lang/String", "checkIndex", "(II)V"⟩
abbrev nt_b_chk : ByteArray := prog_17_method_155_code
theorem nt_d_chk_0 : decode nt_b_chk 0 = .ok (.iload_n 0, 1) := by decide +kernel
theorem nt_d_chk_1 : decode nt_b_chk 1 = .ok (.iload_n 1, 1) := by decide +kernel
theorem nt_d_chk_2 : decode nt_b_chk 2 = .ok (.getstatic 1053, 3) := by decide +kernel
theorem nt_d_chk_5 : decode nt_b_chk 5 = .ok (.invokestatic 1059, 3) := by decide +kernel
theorem nt_d_chk_8 : decode nt_b_chk 8 = .ok (.pop, 1) := by decide +kernel
theorem nt_d_chk_9 : decode nt_b_chk 9 = .ok (.return_, 1) := by decide +kernel
def nt_y_pre : MethodName := ⟨"jdk/internal/util/Preconditions", "checkIndex", "(IILjava/util/function/BiFunction;)I"⟩
abbrev nt_b_pre : ByteArray := prog_22_method_11_code
theorem nt_d_pre_0 : decode nt_b_pre 0 = .ok (.iload_n 0, 1) := by decide +kernel
theorem nt_d_pre_1 : decode nt_b_pre 1 = .ok (.ifCond .lt 8, 3) := by decide +kernel
theorem nt_d_pre_4 : decode nt_b_pre 4 = .ok (.iload_n 0, 1) := by decide +kernel
theorem nt_d_pre_5 : decode nt_b_pre 5 = .ok (.iload_n 1, 1) := by decide +kernel
theorem nt_d_pre_6 : decode nt_b_pre 6 = .ok (.if_icmp .lt 10, 3) := by decide +kernel
theorem nt_d_pre_9 : decode nt_b_pre 9 = .ok (.aload_n 2, 1) := by decide +kernel
theorem nt_d_pre_10 : decode nt_b_pre 10 = .ok (.iload_n 0, 1) := by decide +kernel
theorem nt_d_pre_11 : decode nt_b_pre 11 = .ok (.iload_n 1, 1) := by decide +kernel
theorem nt_d_pre_12 : decode nt_b_pre 12 = .ok (.invokestatic 95, 3) := by decide +kernel
theorem nt_d_pre_15 : decode nt_b_pre 15 = .ok (.athrow, 1) := by decide +kernel
theorem nt_d_pre_16 : decode nt_b_pre 16 = .ok (.iload_n 0, 1) := by decide +kernel
theorem nt_d_pre_17 : decode nt_b_pre 17 = .ok (.ireturn, 1) := by decide +kernel
theorem nt_s_c_len : Cond.code nt_y_len nt_b_len 1 (some .int) ∈ nt_ws := nt_tb2 (i := 164) rfl rfl
theorem nt_s_i_len : Cond.instanceMethod nt_y_len ∈ nt_ws := nt_tb2 (i := 162) rfl rfl
theorem nt_s_s_len : Cond.selects "java/lang/String" nt_y_len nt_y_len ∈ nt_ws := nt_tb2 (i := 163) rfl rfl
theorem nt_s_c_cod : Cond.code nt_y_cod nt_b_cod 1 (some .byte) ∈ nt_ws := nt_tb2 (i := 168) rfl rfl
theorem nt_s_i_cod : Cond.instanceMethod nt_y_cod ∈ nt_ws := nt_tb2 (i := 166) rfl rfl
theorem nt_s_s_cod : Cond.selects "java/lang/String" nt_y_cod nt_y_cod ∈ nt_ws := nt_tb2 (i := 167) rfl rfl
theorem nt_s_c_chr : Cond.code nt_y_chr nt_b_chr 2 (some .char) ∈ nt_ws := nt_tb2 (i := 174) rfl rfl
theorem nt_s_i_chr : Cond.instanceMethod nt_y_chr ∈ nt_ws := nt_tb2 (i := 172) rfl rfl
theorem nt_s_s_chr : Cond.selects "java/lang/String" nt_y_chr nt_y_chr ∈ nt_ws := nt_tb2 (i := 173) rfl rfl
theorem nt_s_c_lat : Cond.code nt_y_lat nt_b_lat 1 (some .boolean) ∈ nt_ws := nt_tb2 (i := 178) rfl rfl
theorem nt_s_i_lat : Cond.instanceMethod nt_y_lat ∈ nt_ws := nt_tb2 (i := 176) rfl rfl
theorem nt_s_s_lat : Cond.selects "java/lang/String" nt_y_lat nt_y_lat ∈ nt_ws := nt_tb2 (i := 177) rfl rfl
theorem nt_s_c_lch : Cond.code nt_y_lch nt_b_lch 2 (some .char) ∈ nt_ws := nt_tb2 (i := 181) rfl rfl
theorem nt_s_i_lch : Cond.static nt_y_lch ∈ nt_ws := nt_tb2 (i := 180) rfl rfl
theorem nt_s_c_chk : Cond.code nt_y_chk nt_b_chk 2 none ∈ nt_ws := nt_tb2 (i := 184) rfl rfl
theorem nt_s_i_chk : Cond.static nt_y_chk ∈ nt_ws := nt_tb2 (i := 183) rfl rfl
theorem nt_s_c_pre : Cond.code nt_y_pre nt_b_pre 3 (some .int) ∈ nt_ws := nt_tb2 (i := 189) rfl rfl
theorem nt_s_i_pre : Cond.static nt_y_pre ∈ nt_ws := nt_tb2 (i := 188) rfl rfl
theorem nt_s_n1 : Cond.initialized "java/lang/String" ∈ nt_ws := nt_tb1 (i := 13) rfl rfl
theorem nt_s_n2 : Cond.initialized "java/lang/StringLatin1" ∈ nt_ws := nt_tb1 (i := 14) rfl rfl
theorem nt_s_n3 : Cond.initialized "jdk/internal/util/Preconditions" ∈ nt_ws := nt_tb1 (i := 15) rfl rfl
theorem nt_s_f9 : Cond.fieldLink "java/lang/String" 9 "java/lang/String" "value" "[B" ∈ nt_ws := nt_tb7 (i := 77) rfl rfl
theorem nt_s_f15 : Cond.fieldLink "java/lang/String" 15 "java/lang/String" "coder" "B" ∈ nt_ws := nt_tb7 (i := 78) rfl rfl
theorem nt_s_f38 : Cond.fieldLink "java/lang/String" 38 "java/lang/String" "COMPACT_STRINGS" "Z" ∈ nt_ws := nt_tb2 (i := 169) rfl rfl
theorem nt_s_f1053 : Cond.fieldLink "java/lang/String" 1053 "jdk/internal/util/Preconditions" "SIOOBE_FORMATTER" "Ljava/util/function/BiFunction;" ∈ nt_ws := nt_tb2 (i := 185) rfl rfl
theorem nt_s_l335 : Cond.methodLink "java/lang/String" 335 nt_y_cod ∈ nt_ws := nt_tb2 (i := 165) rfl rfl
theorem nt_s_l492 : Cond.methodLink "java/lang/String" 492 nt_y_lat ∈ nt_ws := nt_tb2 (i := 175) rfl rfl
theorem nt_s_l495 : Cond.methodLink "java/lang/String" 495 nt_y_lch ∈ nt_ws := nt_tb2 (i := 179) rfl rfl
theorem nt_s_l9 : Cond.methodLink "java/lang/StringLatin1" 9 nt_y_chk ∈ nt_ws := nt_tb2 (i := 182) rfl rfl
theorem nt_s_l1059 : Cond.methodLink "java/lang/String" 1059 nt_y_pre ∈ nt_ws := nt_tb2 (i := 187) rfl rfl
theorem nt_SB_ok : ∀ i, i < 18 → ((nt_SB.map List.length).getD i 0 = (nt_SB.getD i []).length ∧ ∀ b ∈ nt_SB.getD i [], b &&& 255 = b) := by decide +kernel
theorem nt_getD_mem {l : List Int32} {j : Nat} (h : j < l.length) : l.getD j 0 ∈ l := by
  rw [List.getD_eq_getElem?_getD, List.getElem?_eq_getElem h]
  exact List.getElem_mem h
def nt_wsS (y : MethodName) (b : ByteArray) (n : Nat) (r : Option FieldType) : List Cond := Cond.code y b n r :: nt_ws
theorem nt_goodS {y : MethodName} {b : ByteArray} {n : Nat} {r : Option FieldType} (h : Cond.code y b n r ∈ nt_ws) : GoodIn nt_ws (nt_wsS y b n r) := fun w hw => by
  rcases List.mem_cons.mp hw with e | e
  · rw [e]
    exact ⟨h, good_of_word (List.mem_filter.mp h).2⟩
  · exact ⟨e, good_of_word (List.mem_filter.mp e).2⟩
/-- the start of a method of the texts: its arguments, and what stands around -/
def nt_PS (av : List Value) (D : va_G) (cy ad0 adV : Nat → Nat) (X : nt_X) (A : Nat → Prop) : Array Value → State → Prop := fun v U => v = av.toArray ∧ nt_Am D cy ad0 adV X A U U.heap
theorem nt_PS_blind {av : List Value} {D : va_G} {cy ad0 adV : Nat → Nat} {X : nt_X} {A : Nat → Prop} : FrameBlind (nt_PS av D cy ad0 adV X A) := fun a U g mk q => ⟨q.1, nt_Am_same (s := U) (U := U.calling g mk a) rfl q.2⟩
set_option maxHeartbeats 1000000 in
/-- a text's coder is 0 -/
theorem nt_c_cod (l : Launch) (D : va_G) (cy ad0 adV : Nat → Nat) (X : nt_X) (A : Nat → Prop) {i : Nat} (hi : i < 18) : Met l nt_y_cod (nt_wsS nt_y_cod nt_b_cod 1 (some .byte)) { frames := 0, cells := 0, slots := 0, locals := 0 } (nt_PS [.ref (ad0 (nt_sp + 1 + i))] D cy ad0 adV X A) (QcRead 0) 0 0 (fun _ => False) := by
  refine Met.ofW (cc := nt_b_cod) (maxL := 1) (ret := (some .byte)) (by decide) rfl ?_
  intro p e s m args below meth c s₁ B hml hv
  obtain ⟨rfl, hAm⟩ := hv
  have hx := B.exec
  have hb := B.bytes
  have hr := B.returns
  have hts : ∀ w ∈ nt_ws, w.before _ s = true := fun w hw => atoms_spec (ws := nt_wsS nt_y_cod nt_b_cod 1 (some .byte)) B.pre w (List.mem_cons_of_mem _ hw)
  have hown : s.vm.findClass "java/lang/String" = some m.cls := findClass_of_methodNamed B.named
  have hlocks := B.notSynchronized
  have hS : va_S A s.heap s.heap [] := va_S.rf
  have hl := lv_entry ([.ref (ad0 (nt_sp + 1 + i))]) (n := 1) (Nat.le_of_ble_eq_true rfl)
  rw [lg_entry_eq]
  generalize (lg_sl ([.ref (ad0 (nt_sp + 1 + i))]) ++ List.replicate (1 - (lg_sl ([.ref (ad0 (nt_sp + 1 + i))])).length) Slot.unset).toArray = ls at hl ⊢
  have hl : lv_has ls 1 [(0, .ref (ad0 (nt_sp + 1 + i)))] := hl
  have a9 := hAm.2.2.2.2.2.2.2.2.1
  have aZ := hAm.2.2.2.2.2.2.2.2.2.1
  have aQ := hAm.2.2.2.2.2.2.2.2.2.2
  obtain ⟨b1, b2, b3, b4⟩ := a9.1 i hi
  refine va_gets hx hb aZ hS hown (hts _ nt_s_f38) (fun _ h => h) nt_d_cod_0 ?_
  refine lv_if_eq (tgt := 13) hx hb nt_d_cod_3 (by decide) (fun q => absurd q (by decide)) (fun _ => ?_)
  refine lv_aload_n hx hb nt_d_cod_6 rfl (lv_at hl 0 rfl) ?_
  refine vk_getf hx hb b2 hS hown (hts _ nt_s_f15) (fun _ h => h) nt_d_cod_7 ?_
  refine lv_goto (tgt := 14) hx hb nt_d_cod_10 (by decide) ?_
  exact W.zret hx hb hr rfl (fun t ht hW => ⟨rfl, ht⟩) (fun _ h => by cases h) nt_d_cod_14 hlocks
set_option maxHeartbeats 1000000 in
/-- a text is of small letters -/
theorem nt_c_lat (l : Launch) (D : va_G) (cy ad0 adV : Nat → Nat) (X : nt_X) (A : Nat → Prop) {i : Nat} (hi : i < 18) : Met l nt_y_lat (nt_wsS nt_y_lat nt_b_lat 1 (some .boolean)) { frames := 0, cells := 0, slots := 0, locals := 0 } (nt_PS [.ref (ad0 (nt_sp + 1 + i))] D cy ad0 adV X A) (QcRead 1) 0 0 (fun _ => False) := by
  refine Met.ofW (cc := nt_b_lat) (maxL := 1) (ret := (some .boolean)) (by decide) rfl ?_
  intro p e s m args below meth c s₁ B hml hv
  obtain ⟨rfl, hAm⟩ := hv
  have hx := B.exec
  have hb := B.bytes
  have hr := B.returns
  have hts : ∀ w ∈ nt_ws, w.before _ s = true := fun w hw => atoms_spec (ws := nt_wsS nt_y_lat nt_b_lat 1 (some .boolean)) B.pre w (List.mem_cons_of_mem _ hw)
  have hown : s.vm.findClass "java/lang/String" = some m.cls := findClass_of_methodNamed B.named
  have hlocks := B.notSynchronized
  have hS : va_S A s.heap s.heap [] := va_S.rf
  have hl := lv_entry ([.ref (ad0 (nt_sp + 1 + i))]) (n := 1) (Nat.le_of_ble_eq_true rfl)
  rw [lg_entry_eq]
  generalize (lg_sl ([.ref (ad0 (nt_sp + 1 + i))]) ++ List.replicate (1 - (lg_sl ([.ref (ad0 (nt_sp + 1 + i))])).length) Slot.unset).toArray = ls at hl ⊢
  have hl : lv_has ls 1 [(0, .ref (ad0 (nt_sp + 1 + i)))] := hl
  have a9 := hAm.2.2.2.2.2.2.2.2.1
  have aZ := hAm.2.2.2.2.2.2.2.2.2.1
  have aQ := hAm.2.2.2.2.2.2.2.2.2.2
  obtain ⟨b1, b2, b3, b4⟩ := a9.1 i hi
  refine va_gets hx hb aZ hS hown (hts _ nt_s_f38) (fun _ h => h) nt_d_lat_0 ?_
  refine lv_if_eq (tgt := 17) hx hb nt_d_lat_3 (by decide) (fun q => absurd q (by decide)) (fun _ => ?_)
  refine lv_aload_n hx hb nt_d_lat_6 rfl (lv_at hl 0 rfl) ?_
  refine vk_getf hx hb b2 hS hown (hts _ nt_s_f15) (fun _ h => h) nt_d_lat_7 ?_
  refine lv_if_ne (tgt := 17) hx hb nt_d_lat_10 (by decide) (fun q => absurd rfl q) (fun _ => ?_)
  refine lv_iconst (v := 1) hx hb nt_d_lat_13 (by decide) ?_
  refine lv_goto (tgt := 18) hx hb nt_d_lat_14 (by decide) ?_
  exact W.zret hx hb hr rfl (fun t ht hW => ⟨rfl, ht⟩) (fun _ h => by cases h) nt_d_lat_18 hlocks
set_option maxHeartbeats 1000000 in
/-- an index in its range -/
theorem nt_c_pre (l : Launch) (D : va_G) (cy ad0 adV : Nat → Nat) (X : nt_X) (A : Nat → Prop) {x n : Int32} (h0 : ¬ x < 0) (h1 : x < n) (z : Nat) (zn : Bool) : Met l nt_y_pre (nt_wsS nt_y_pre nt_b_pre 3 (some .int)) { frames := 0, cells := 0, slots := 0, locals := 0 } (nt_PS [.int x, .int n, bif zn then Value.null else Value.ref z] D cy ad0 adV X A) (QcRead x) 0 0 (fun _ => False) := by
  refine Met.ofW (cc := nt_b_pre) (maxL := 3) (ret := (some .int)) (by decide) rfl ?_
  intro p e s m args below meth c s₁ B hml hv
  obtain ⟨rfl, hAm⟩ := hv
  have hx := B.exec
  have hb := B.bytes
  have hr := B.returns
  have hts : ∀ w ∈ nt_ws, w.before _ s = true := fun w hw => atoms_spec (ws := nt_wsS nt_y_pre nt_b_pre 3 (some .int)) B.pre w (List.mem_cons_of_mem _ hw)
  have hown : s.vm.findClass "jdk/internal/util/Preconditions" = some m.cls := findClass_of_methodNamed B.named
  have hlocks := B.notSynchronized
  have hS : va_S A s.heap s.heap [] := va_S.rf
  have hl := lv_entry ([.int x, .int n, bif zn then Value.null else Value.ref z]) (n := 3) (by cases zn <;> exact Nat.le_of_ble_eq_true rfl)
  rw [lg_entry_eq]
  generalize (lg_sl ([.int x, .int n, bif zn then Value.null else Value.ref z]) ++ List.replicate (3 - (lg_sl ([.int x, .int n, bif zn then Value.null else Value.ref z])).length) Slot.unset).toArray = ls at hl ⊢
  have hl : lv_has ls 3 (lv_args 0 [.int x, .int n, bif zn then Value.null else Value.ref z]) := hl
  have a9 := hAm.2.2.2.2.2.2.2.2.1
  have aZ := hAm.2.2.2.2.2.2.2.2.2.1
  have aQ := hAm.2.2.2.2.2.2.2.2.2.2
  have q0 : (lv_args 0 [.int x, .int n, bif zn then Value.null else Value.ref z])[0]? = some (0, .int x) := rfl
  have q1 : (lv_args 0 [.int x, .int n, bif zn then Value.null else Value.ref z])[1]? = some (1, .int n) := rfl
  refine lv_iload_n hx hb nt_d_pre_0 rfl (lv_at hl 0 q0) ?_
  refine lv_if_lt (tgt := 9) hx hb nt_d_pre_1 (by decide) (fun q => absurd q h0) (fun _ => ?_)
  refine lv_iload_n hx hb nt_d_pre_4 rfl (lv_at hl 0 q0) ?_
  refine lv_iload_n hx hb nt_d_pre_5 rfl (lv_at hl 1 q1) ?_
  refine lv_icmp_lt (tgt := 16) hx hb nt_d_pre_6 (by decide) (fun _ => ?_) (fun q => absurd h1 q)
  refine lv_iload_n hx hb nt_d_pre_16 rfl (lv_at hl 0 q0) ?_
  exact W.iret hx hb hr (fun t ht hW => ⟨rfl, ht⟩) (fun _ h => by cases h) nt_d_pre_17 hlocks
set_option maxHeartbeats 1000000 in
/-- an index in its range -/
theorem nt_c_chk (l : Launch) (D : va_G) (cy ad0 adV : Nat → Nat) (X : nt_X) (A : Nat → Prop) {x n : Int32} (h0 : ¬ x < 0) (h1 : x < n) : Met l nt_y_chk (nt_wsS nt_y_chk nt_b_chk 2 none) { frames := 1, cells := 0, slots := 0, locals := 22 } (nt_PS [.int x, .int n] D cy ad0 adV X A) (va_Sv (fun _ => True)) 0 0 (fun _ => False) := by
  refine Met.ofW (cc := nt_b_chk) (maxL := 2) (ret := none) (by decide) rfl ?_
  intro p e s m args below meth c s₁ B hml hv
  obtain ⟨rfl, hAm⟩ := hv
  have hx := B.exec
  have hb := B.bytes
  have hr := B.returns
  have hts : ∀ w ∈ nt_ws, w.before _ s = true := fun w hw => atoms_spec (ws := nt_wsS nt_y_chk nt_b_chk 2 none) B.pre w (List.mem_cons_of_mem _ hw)
  have hown : s.vm.findClass "java/lang/String" = some m.cls := findClass_of_methodNamed B.named
  have hlocks := B.notSynchronized
  have hS : va_S A s.heap s.heap [] := va_S.rf
  have hl := lv_entry ([.int x, .int n]) (n := 2) (Nat.le_of_ble_eq_true rfl)
  rw [lg_entry_eq]
  generalize (lg_sl ([.int x, .int n]) ++ List.replicate (2 - (lg_sl ([.int x, .int n])).length) Slot.unset).toArray = ls at hl ⊢
  have hl : lv_has ls 2 [(0, .int x), (1, .int n)] := hl
  have a9 := hAm.2.2.2.2.2.2.2.2.1
  have aZ := hAm.2.2.2.2.2.2.2.2.2.1
  have aQ := hAm.2.2.2.2.2.2.2.2.2.2
  have hpre : ∀ (zn : Bool) (z : Nat) (U : State), U.heap = s.heap → s.WarmedH U.vm → nt_PS [.int x, .int n, bif zn then Value.null else Value.ref z] D cy ad0 adV X A ([.int x, .int n, bif zn then Value.null else Value.ref z] : List Value).toArray U := fun zn z U hU hW => ⟨rfl, by rw [hU]; exact nt_Am_warm hW (Nat.le_refl _) (fun _ _ _ => rfl) hAm⟩
  have key : ∀ (zn : Bool) (z : Nat), W p l e (headSpec (nt_wsS nt_y_chk nt_b_chk 2 none) { frames := 1, cells := 0, slots := 0, locals := 22 }).room s m ([.int x, .int n] : List Value).toArray below meth c s.heap [] 0 0 (MQ below (va_Sv (fun _ => True)) ([.int x, .int n] : List Value).toArray s 0 0 (fun _ => False)) (F0 m 5 ls [bif zn then Value.null else Value.ref z, .int n, .int x]) := fun zn z => by
    refine W.callR (W.runS (As := [.int x, .int n, bif zn then Value.null else Value.ref z]) (rest := []) ⟨hx, hb, hml, hown, hts⟩ (nt_c_pre l D cy ad0 adV X A h0 h1 z zn) ⟨callB_of 3 hts (nt_goodS nt_s_c_pre) rfl rfl rfl (hts _ nt_s_n3) (hts _ nt_s_l1059) (by decide +kernel) ⟨Nat.le_of_ble_eq_true rfl, Nat.le_of_ble_eq_true rfl⟩, hts _ nt_s_i_pre⟩ ⟨nt_PS_blind, hpre zn z⟩ rfl rfl hl.1 rfl (lv_room (Nat.le_of_ble_eq_true rfl)) nt_d_chk_5 ⟨Nat.zero_le _, Nat.zero_le _⟩) ?_
    refine W.eq (g2 := F0 m 8 ls [.int x]) rfl ?_
    refine lv_pop hx hb nt_d_chk_8 rfl ?_
    exact W.vret hx hb hr (fun t ht hW => ⟨rfl, trivial, ht⟩) (fun _ h => by cases h) nt_d_chk_9 hlocks
  refine lv_iload_n hx hb nt_d_chk_0 rfl (lv_at hl 0 rfl) ?_
  refine lv_iload_n hx hb nt_d_chk_1 rfl (lv_at hl 1 rfl) ?_
  rcases aQ with aQ | ⟨z, aQ⟩
  · exact va_gets hx hb aQ hS hown (hts _ nt_s_f1053) (fun _ h => h) nt_d_chk_2 (key true 0)
  · exact va_gets hx hb aQ hS hown (hts _ nt_s_f1053) (fun _ h => h) nt_d_chk_2 (key false z)
set_option maxHeartbeats 1000000 in
/-- a letter of the bytes -/
theorem nt_c_lch (l : Launch) (D : va_G) (cy ad0 adV : Nat → Nat) (X : nt_X) (A : Nat → Prop) {i : Nat} (hi : i < 18) {x : Int32} (hin : vp_in x (nt_SB.getD i []).length) : Met l nt_y_lch (nt_wsS nt_y_lch nt_b_lch 2 (some .char)) { frames := 2, cells := 0, slots := 0, locals := 43 } (nt_PS [.ref (adV i), .int x] D cy ad0 adV X A) (QcRead ((nt_SB.getD i []).getD x.toNatClampNeg 0)) 0 0 (fun _ => False) := by
  refine Met.ofW (cc := nt_b_lch) (maxL := 2) (ret := (some .char)) (by decide) rfl ?_
  intro p e s m args below meth c s₁ B hml hv
  obtain ⟨rfl, hAm⟩ := hv
  have hx := B.exec
  have hb := B.bytes
  have hr := B.returns
  have hts : ∀ w ∈ nt_ws, w.before _ s = true := fun w hw => atoms_spec (ws := nt_wsS nt_y_lch nt_b_lch 2 (some .char)) B.pre w (List.mem_cons_of_mem _ hw)
  have hown : s.vm.findClass "java/lang/StringLatin1" = some m.cls := findClass_of_methodNamed B.named
  have hlocks := B.notSynchronized
  have hS : va_S A s.heap s.heap [] := va_S.rf
  have hl := lv_entry ([.ref (adV i), .int x]) (n := 2) (Nat.le_of_ble_eq_true rfl)
  rw [lg_entry_eq]
  generalize (lg_sl ([.ref (adV i), .int x]) ++ List.replicate (2 - (lg_sl ([.ref (adV i), .int x])).length) Slot.unset).toArray = ls at hl ⊢
  have hl : lv_has ls 2 [(0, .ref (adV i)), (1, .int x)] := hl
  have a9 := hAm.2.2.2.2.2.2.2.2.1
  have aZ := hAm.2.2.2.2.2.2.2.2.2.1
  have aQ := hAm.2.2.2.2.2.2.2.2.2.2
  obtain ⟨b1, b2, b3, b4⟩ := a9.1 i hi
  obtain ⟨c1, c2⟩ := nt_SB_ok i hi
  rw [c1] at b4
  have hlt : (nt_SB.getD i []).length < 2 ^ 31 := by
    have q : ∀ i, i < 18 → (nt_SB.getD i []).length < 2 ^ 31 := by decide +kernel
    exact q i hi
  obtain ⟨j, hj, ej⟩ := vp_in_of hin hlt
  have hpre : ∀ U : State, U.heap = s.heap → s.WarmedH U.vm → nt_PS [.int x, .int (Int32.ofNat (nt_SB.getD i []).length)] D cy ad0 adV X A ([.int x, .int (Int32.ofNat (nt_SB.getD i []).length)] : List Value).toArray U := fun U hU hW => ⟨rfl, by rw [hU]; exact nt_Am_warm hW (Nat.le_refl _) (fun _ _ _ => rfl) hAm⟩
  refine lv_iload_n hx hb nt_d_lch_0 rfl (lv_at hl 1 rfl) ?_
  refine lv_aload_n hx hb nt_d_lch_1 rfl (lv_at hl 0 rfl) ?_
  refine va_tlen hx hb b4 hS rfl nt_d_lch_2 ?_
  refine va_csv (W.runS (As := [.int x, .int (Int32.ofNat (nt_SB.getD i []).length)]) (rest := []) ⟨hx, hb, hml, hown, hts⟩ (nt_c_chk l D cy ad0 adV X A (x := x) (n := Int32.ofNat (nt_SB.getD i []).length) (by rw [ej]; exact nI_pos (by omega)) (by rw [ej]; exact nI_lt hj hlt)) ⟨callB_of 2 hts (nt_goodS nt_s_c_chk) rfl rfl rfl (hts _ nt_s_n1) (hts _ nt_s_l9) (by decide +kernel) ⟨Nat.le_of_ble_eq_true rfl, Nat.le_of_ble_eq_true rfl⟩, hts _ nt_s_i_chk⟩ ⟨nt_PS_blind, hpre⟩ rfl rfl hl.1 rfl (lv_room (Nat.le_of_ble_eq_true rfl)) nt_d_lch_3 ⟨Nat.zero_le _, Nat.zero_le _⟩) (fun _ => ?_)
  refine lv_aload_n hx hb nt_d_lch_6 rfl (lv_at hl 0 rfl) ?_
  refine lv_iload_n hx hb nt_d_lch_7 rfl (lv_at hl 1 rfl) ?_
  refine va_tb hx hb b4 hS hin rfl nt_d_lch_8 ?_
  refine lv_sipush (v := 255) hx hb nt_d_lch_9 (by decide) ?_
  refine lv_iand hx hb nt_d_lch_12 ?_
  refine lv_i2c hx hb nt_d_lch_13 (sc_c2 _) ?_
  have e1 : (nt_SB.getD i []).getD x.toNatClampNeg 0 &&& 255 = (nt_SB.getD i []).getD x.toNatClampNeg 0 := by
    have hm : (nt_SB.getD i []).getD x.toNatClampNeg 0 ∈ nt_SB.getD i [] := by
      rw [ej, nI_clamp (by omega)]
      exact nt_getD_mem hj
    exact c2 _ hm
  have e2 := sc_nar ((nt_SB.getD i []).getD x.toNatClampNeg 0)
  rw [e1] at e2 ⊢
  exact W.zret hx hb hr e2 (fun t ht hW => ⟨rfl, ht⟩) (fun _ h => by cases h) nt_d_lch_14 hlocks
set_option maxHeartbeats 1000000 in
/-- a text's length -/
theorem nt_c_len (l : Launch) (D : va_G) (cy ad0 adV : Nat → Nat) (X : nt_X) (A : Nat → Prop) {i : Nat} (hi : i < 18) : Met l nt_y_len (nt_wsS nt_y_len nt_b_len 1 (some .int)) { frames := 1, cells := 0, slots := 0, locals := 20 } (nt_PS [.ref (ad0 (nt_sp + 1 + i))] D cy ad0 adV X A) (QcRead (Int32.ofNat (nt_SB.getD i []).length)) 0 0 (fun _ => False) := by
  refine Met.ofW (cc := nt_b_len) (maxL := 1) (ret := (some .int)) (by decide) rfl ?_
  intro p e s m args below meth c s₁ B hml hv
  obtain ⟨rfl, hAm⟩ := hv
  have hx := B.exec
  have hb := B.bytes
  have hr := B.returns
  have hts : ∀ w ∈ nt_ws, w.before _ s = true := fun w hw => atoms_spec (ws := nt_wsS nt_y_len nt_b_len 1 (some .int)) B.pre w (List.mem_cons_of_mem _ hw)
  have hown : s.vm.findClass "java/lang/String" = some m.cls := findClass_of_methodNamed B.named
  have hlocks := B.notSynchronized
  have hS : va_S A s.heap s.heap [] := va_S.rf
  have hl := lv_entry ([.ref (ad0 (nt_sp + 1 + i))]) (n := 1) (Nat.le_of_ble_eq_true rfl)
  rw [lg_entry_eq]
  generalize (lg_sl ([.ref (ad0 (nt_sp + 1 + i))]) ++ List.replicate (1 - (lg_sl ([.ref (ad0 (nt_sp + 1 + i))])).length) Slot.unset).toArray = ls at hl ⊢
  have hl : lv_has ls 1 [(0, .ref (ad0 (nt_sp + 1 + i)))] := hl
  have a9 := hAm.2.2.2.2.2.2.2.2.1
  have aZ := hAm.2.2.2.2.2.2.2.2.2.1
  have aQ := hAm.2.2.2.2.2.2.2.2.2.2
  obtain ⟨b1, b2, b3, b4⟩ := a9.1 i hi
  obtain ⟨c1, c2⟩ := nt_SB_ok i hi
  rw [c1] at b4
  have hpre : ∀ U : State, U.heap = s.heap → s.WarmedH U.vm → nt_PS [.ref (ad0 (nt_sp + 1 + i))] D cy ad0 adV X A ([.ref (ad0 (nt_sp + 1 + i))] : List Value).toArray U := fun U hU hW => ⟨rfl, by rw [hU]; exact nt_Am_warm hW (Nat.le_refl _) (fun _ _ _ => rfl) hAm⟩
  refine lv_aload_n hx hb nt_d_len_0 rfl (lv_at hl 0 rfl) ?_
  refine vk_getf hx hb b3 hS hown (hts _ nt_s_f9) (fun _ h => h) nt_d_len_1 ?_
  refine va_tlen hx hb b4 hS rfl nt_d_len_4 ?_
  refine lv_aload_n hx hb nt_d_len_5 rfl (lv_at hl 0 rfl) ?_
  refine W.callR (W.runV (C := "java/lang/String") (b := ad0 (nt_sp + 1 + i)) (As := []) (rest := [.int (Int32.ofNat (nt_SB.getD i []).length)]) ⟨hx, hb, hml, hown, hts⟩ (nt_c_cod l D cy ad0 adV X A hi) ⟨callB_of 0 hts (nt_goodS nt_s_c_cod) rfl rfl rfl (hts _ nt_s_n1) (hts _ nt_s_l335) (by decide +kernel) ⟨Nat.le_of_ble_eq_true rfl, Nat.le_of_ble_eq_true rfl⟩, hts _ nt_s_i_cod, hts _ nt_s_s_cod⟩ ⟨nt_PS_blind, vk_recv (adK := fun i => ad0 (nt_sp + 1 + i)) a9 hi hS, hpre⟩ rfl rfl hl.1 rfl (lv_room (Nat.le_of_ble_eq_true rfl)) nt_d_len_6 ⟨Nat.zero_le _, Nat.zero_le _⟩) ?_
  refine W.eq (g2 := F0 m 9 ls [.int 0, .int (Int32.ofNat (nt_SB.getD i []).length)]) rfl ?_
  refine lv_ishr hx hb nt_d_len_9 ?_
  rw [sb_shr0]
  exact W.iret hx hb hr (fun t ht hW => ⟨rfl, ht⟩) (fun _ h => by cases h) nt_d_len_10 hlocks
set_option maxHeartbeats 1000000 in
/-- a text's letter -/
theorem nt_c_chr (l : Launch) (D : va_G) (cy ad0 adV : Nat → Nat) (X : nt_X) (A : Nat → Prop) {i : Nat} (hi : i < 18) {x : Int32} (hin : vp_in x (nt_SB.getD i []).length) : Met l nt_y_chr (nt_wsS nt_y_chr nt_b_chr 2 (some .char)) { frames := 3, cells := 0, slots := 0, locals := 64 } (nt_PS [.ref (ad0 (nt_sp + 1 + i)), .int x] D cy ad0 adV X A) (QcRead ((nt_SB.getD i []).getD x.toNatClampNeg 0)) 0 0 (fun _ => False) := by
  refine Met.ofW (cc := nt_b_chr) (maxL := 2) (ret := (some .char)) (by decide) rfl ?_
  intro p e s m args below meth c s₁ B hml hv
  obtain ⟨rfl, hAm⟩ := hv
  have hx := B.exec
  have hb := B.bytes
  have hr := B.returns
  have hts : ∀ w ∈ nt_ws, w.before _ s = true := fun w hw => atoms_spec (ws := nt_wsS nt_y_chr nt_b_chr 2 (some .char)) B.pre w (List.mem_cons_of_mem _ hw)
  have hown : s.vm.findClass "java/lang/String" = some m.cls := findClass_of_methodNamed B.named
  have hlocks := B.notSynchronized
  have hS : va_S A s.heap s.heap [] := va_S.rf
  have hl := lv_entry ([.ref (ad0 (nt_sp + 1 + i)), .int x]) (n := 2) (Nat.le_of_ble_eq_true rfl)
  rw [lg_entry_eq]
  generalize (lg_sl ([.ref (ad0 (nt_sp + 1 + i)), .int x]) ++ List.replicate (2 - (lg_sl ([.ref (ad0 (nt_sp + 1 + i)), .int x])).length) Slot.unset).toArray = ls at hl ⊢
  have hl : lv_has ls 2 [(0, .ref (ad0 (nt_sp + 1 + i))), (1, .int x)] := hl
  have a9 := hAm.2.2.2.2.2.2.2.2.1
  have aZ := hAm.2.2.2.2.2.2.2.2.2.1
  have aQ := hAm.2.2.2.2.2.2.2.2.2.2
  obtain ⟨b1, b2, b3, b4⟩ := a9.1 i hi
  obtain ⟨c1, c2⟩ := nt_SB_ok i hi
  have hpre : ∀ U : State, U.heap = s.heap → s.WarmedH U.vm → nt_PS [.ref (ad0 (nt_sp + 1 + i))] D cy ad0 adV X A ([.ref (ad0 (nt_sp + 1 + i))] : List Value).toArray U := fun U hU hW => ⟨rfl, by rw [hU]; exact nt_Am_warm hW (Nat.le_refl _) (fun _ _ _ => rfl) hAm⟩
  have hpre2 : ∀ U : State, U.heap = s.heap → s.WarmedH U.vm → nt_PS [.ref (adV i), .int x] D cy ad0 adV X A ([.ref (adV i), .int x] : List Value).toArray U := fun U hU hW => ⟨rfl, by rw [hU]; exact nt_Am_warm hW (Nat.le_refl _) (fun _ _ _ => rfl) hAm⟩
  refine lv_aload_n hx hb nt_d_chr_0 rfl (lv_at hl 0 rfl) ?_
  refine W.callR (W.runV (C := "java/lang/String") (b := ad0 (nt_sp + 1 + i)) (As := []) (rest := []) ⟨hx, hb, hml, hown, hts⟩ (nt_c_lat l D cy ad0 adV X A hi) ⟨callB_of 0 hts (nt_goodS nt_s_c_lat) rfl rfl rfl (hts _ nt_s_n1) (hts _ nt_s_l492) (by decide +kernel) ⟨Nat.le_of_ble_eq_true rfl, Nat.le_of_ble_eq_true rfl⟩, hts _ nt_s_i_lat, hts _ nt_s_s_lat⟩ ⟨nt_PS_blind, vk_recv (adK := fun i => ad0 (nt_sp + 1 + i)) a9 hi hS, hpre⟩ rfl rfl hl.1 rfl (lv_room (Nat.le_of_ble_eq_true rfl)) nt_d_chr_1 ⟨Nat.zero_le _, Nat.zero_le _⟩) ?_
  refine W.eq (g2 := F0 m 4 ls [.int 1]) rfl ?_
  refine lv_if_eq (tgt := 16) hx hb nt_d_chr_4 (by decide) (fun q => absurd q (by decide)) (fun _ => ?_)
  refine lv_aload_n hx hb nt_d_chr_7 rfl (lv_at hl 0 rfl) ?_
  refine vk_getf hx hb b3 hS hown (hts _ nt_s_f9) (fun _ h => h) nt_d_chr_8 ?_
  refine lv_iload_n hx hb nt_d_chr_11 rfl (lv_at hl 1 rfl) ?_
  refine W.callR (W.runS (As := [.ref (adV i), .int x]) (rest := []) ⟨hx, hb, hml, hown, hts⟩ (nt_c_lch l D cy ad0 adV X A hi hin) ⟨callB_of 2 hts (nt_goodS nt_s_c_lch) rfl rfl rfl (hts _ nt_s_n2) (hts _ nt_s_l495) (by decide +kernel) ⟨Nat.le_of_ble_eq_true rfl, Nat.le_of_ble_eq_true rfl⟩, hts _ nt_s_i_lch⟩ ⟨nt_PS_blind, hpre2⟩ rfl rfl hl.1 rfl (lv_room (Nat.le_of_ble_eq_true rfl)) nt_d_chr_12 ⟨Nat.zero_le _, Nat.zero_le _⟩) ?_
  refine W.eq (g2 := F0 m 15 ls [.int ((nt_SB.getD i []).getD x.toNatClampNeg 0)]) rfl ?_
  have hlt : (nt_SB.getD i []).length < 2 ^ 31 := by
    have q : ∀ i, i < 18 → (nt_SB.getD i []).length < 2 ^ 31 := by decide +kernel
    exact q i hi
  obtain ⟨j, hj, ej⟩ := vp_in_of hin hlt
  have e1 : (nt_SB.getD i []).getD x.toNatClampNeg 0 &&& 255 = (nt_SB.getD i []).getD x.toNatClampNeg 0 := by
    have hm : (nt_SB.getD i []).getD x.toNatClampNeg 0 ∈ nt_SB.getD i [] := by
      rw [ej, nI_clamp (by omega)]
      exact nt_getD_mem hj
    exact c2 _ hm
  have e2 := sc_nar ((nt_SB.getD i []).getD x.toNatClampNeg 0)
  rw [e1] at e2
  exact W.zret hx hb hr e2 (fun t ht hW => ⟨rfl, ht⟩) (fun _ h => by cases h) nt_d_chr_15 hlocks
