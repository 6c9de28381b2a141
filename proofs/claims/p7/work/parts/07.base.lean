/-! the small machine's memory as cells of the heap -/
def nt_tv (ad : Nat → Nat) : Value → Value
  | .ref b => .ref (ad b)
  | v => v
def nt_tq (ad : Nat → Nat) (q : Nat × Value) : Nat × Value := (q.1, nt_tv ad q.2)
theorem nt_tv_cat (ad : Nat → Nat) (v : Value) : (nt_tv ad v).category = v.category := by cases v <;> rfl
theorem nt_tv_rv (ad : Nat → Nat) (r : Option Nat) : nt_tv ad (nt_rv r) = va_rf (r.map ad) := by cases r <;> rfl
def nt_F (ad : Nat → Nat) (M : nt_M) (a c j : Nat) : Value := match nt_tg c j with
  | 1 => .long (nt_J M a j)
  | 2 => va_rf ((nt_R M a j).map ad)
  | _ => .int (nt_I M a j)
theorem nt_tv_gf (ad : Nat → Nat) (M : nt_M) (a c j : Nat) : nt_tv ad (nt_gf M a c j) = nt_F ad M a c j := by
  unfold nt_gf nt_F
  generalize nt_tg c j = k
  match k with
  | 0 => rfl
  | 1 => rfl
  | 2 => exact nt_tv_rv ad _
  | n + 3 => rfl
def nt_fs (ad : Nat → Nat) (M : nt_M) (a c : Nat) : List Value := (List.range (nt_N c)).map (nt_F ad M a c)
def nt_E (cy : Nat → ClassId) (ad : Nat → Nat) (M : nt_M) (a : Nat) : va_E :=
  if nt_k M a < 12 then .inr (nt_k M a, nt_fs ad M a (nt_k M a))
  else if nt_k M a = 14 then .inl (cy (nt_k M a), nt_l M a, .inr (.inl (nt_J M a)))
  else if nt_k M a < 16 then .inl (cy (nt_k M a), nt_l M a, .inl (nt_I M a))
  else .inl (cy (nt_k M a), nt_l M a, .inr (.inr (.inr (.inr (fun j => (nt_R M a j).map ad)))))
def nt_w (cy : Nat → ClassId) (ad : Nat → Nat) (M : nt_M) : va_W := (List.range (nt_n M)).map (fun a => (ad a, nt_E cy ad M a))
def nt_tys (cy : Nat → ClassId) : List (ClassId × FieldType) := [(cy 12, .byte), (cy 13, .int), (cy 14, .long), (cy 15, .boolean), (cy 16, .object (nt_RN 4)), (cy 17, .object (nt_RN 6))]
theorem nt_w_get {cy : Nat → ClassId} {ad : Nat → Nat} {M : nt_M} {a : Nat} (h : a < nt_n M) : (nt_w cy ad M)[a]? = some (ad a, nt_E cy ad M a) := by
  unfold nt_w
  rw [List.getElem?_map, List.getElem?_range h]
  rfl
theorem nt_mapset {α : Type} (n a : Nat) (f f' : Nat → α) (h : ∀ b, b ≠ a → f' b = f b) : (List.range n).map f' = ((List.range n).map f).set a (f' a) := by
  apply List.ext_getElem?
  intro i
  rw [List.getElem?_set, List.getElem?_map, List.getElem?_map, List.length_map, List.length_range]
  by_cases hi : i < n
  · rw [List.getElem?_range hi]
    by_cases e : a = i
    · subst e
      rw [if_pos rfl, if_pos hi]
      rfl
    · rw [if_neg e]
      show some (f' i) = some (f i)
      rw [h i (fun q => e q.symm)]
  · rw [List.getElem?_eq_none (by rw [List.length_range]; omega)]
    by_cases e : a = i
    · rw [if_pos e, if_neg (by omega)]
      rfl
    · rw [if_neg e]
      rfl
theorem nt_w_set {cy : Nat → ClassId} {ad : Nat → Nat} {M M' : nt_M} {a : Nat} (hn : nt_n M' = nt_n M) (h : ∀ b, b ≠ a → nt_E cy ad M' b = nt_E cy ad M b) : nt_w cy ad M' = (nt_w cy ad M).set a (ad a, nt_E cy ad M' a) := by
  unfold nt_w
  rw [hn]
  exact nt_mapset (nt_n M) a (fun b => (ad b, nt_E cy ad M b)) (fun b => (ad b, nt_E cy ad M' b)) (fun b hb => by simp only [h b hb])
theorem nt_E_o {cy : Nat → ClassId} {ad : Nat → Nat} {M : nt_M} {a c : Nat} (hk : nt_k M a = c) (hc : c < 12) : nt_E cy ad M a = .inr (c, nt_fs ad M a c) := by
  subst hk
  unfold nt_E
  rw [if_pos hc]
theorem nt_E_i {cy : Nat → ClassId} {ad : Nat → Nat} {M : nt_M} {a : Nat} (hk : nt_k M a = 12 ∨ nt_k M a = 13 ∨ nt_k M a = 15) : nt_E cy ad M a = .inl (cy (nt_k M a), nt_l M a, .inl (nt_I M a)) := by
  unfold nt_E
  rw [if_neg (by omega), if_neg (by omega), if_pos (by omega)]
theorem nt_E_j {cy : Nat → ClassId} {ad : Nat → Nat} {M : nt_M} {a : Nat} (hk : nt_k M a = 14) : nt_E cy ad M a = .inl (cy (nt_k M a), nt_l M a, .inr (.inl (nt_J M a))) := by
  unfold nt_E
  rw [if_neg (by omega), if_pos hk]
theorem nt_E_a {cy : Nat → ClassId} {ad : Nat → Nat} {M : nt_M} {a : Nat} (hk : 16 ≤ nt_k M a) : nt_E cy ad M a = .inl (cy (nt_k M a), nt_l M a, .inr (.inr (.inr (.inr (fun j => (nt_R M a j).map ad))))) := by
  unfold nt_E
  rw [if_neg (by omega), if_neg (by omega), if_neg (by omega)]
theorem nt_cl_get {c : Nat} (h : c < 12) : nt_cl[c]? = some (nt_RN c, nt_T c, nt_N c) := by
  unfold nt_cl
  rw [List.getElem?_map, List.getElem?_range h]
  rfl
theorem nt_fs_get {ad : Nat → Nat} {M : nt_M} {a c j : Nat} (h : j < nt_N c) : (nt_fs ad M a c)[j]? = some (nt_F ad M a c j) := by
  unfold nt_fs
  rw [List.getElem?_map, List.getElem?_range h]
  rfl
theorem nt_fs_len {ad : Nat → Nat} {M : nt_M} {a c : Nat} : (nt_fs ad M a c).length = nt_N c := by
  unfold nt_fs
  rw [List.length_map, List.length_range]
theorem nt_fs_set {ad : Nat → Nat} {M M' : nt_M} {a c j : Nat} {v : Value} (h : ∀ i, i ≠ j → nt_F ad M' a c i = nt_F ad M a c i) (hv : nt_F ad M' a c j = v) : nt_fs ad M' a c = (nt_fs ad M a c).set j v := by
  subst hv
  exact nt_mapset (nt_N c) j (nt_F ad M a c) (nt_F ad M' a c) h
/-! what stays, what changes -/
theorem nt_sI_n (M : nt_M) (a k : Nat) (v : Int32) : nt_n (nt_sI M a k v) = nt_n M := rfl
theorem nt_sI_I (M : nt_M) (a k : Nat) (v : Int32) (b j : Nat) : nt_I (nt_sI M a k v) b j = if b = a then (if j = k then v else nt_I M b j) else nt_I M b j := rfl
theorem nt_sI_Ia (M : nt_M) (a k : Nat) (v : Int32) : nt_I (nt_sI M a k v) a = upd (nt_I M a) k v := by
  funext j
  rw [nt_sI_I, if_pos rfl]
  rfl
theorem nt_sI_Ib (M : nt_M) (a k : Nat) (v : Int32) {b : Nat} (h : b ≠ a) : nt_I (nt_sI M a k v) b = nt_I M b := by
  funext j
  rw [nt_sI_I, if_neg h]
theorem nt_sJ_J (M : nt_M) (a k : Nat) (v : Int64) (b j : Nat) : nt_J (nt_sJ M a k v) b j = if b = a then (if j = k then v else nt_J M b j) else nt_J M b j := rfl
theorem nt_sJ_Ja (M : nt_M) (a k : Nat) (v : Int64) : nt_J (nt_sJ M a k v) a = vp_updL (nt_J M a) k v := by
  funext j
  rw [nt_sJ_J, if_pos rfl]
  rfl
theorem nt_sJ_Jb (M : nt_M) (a k : Nat) (v : Int64) {b : Nat} (h : b ≠ a) : nt_J (nt_sJ M a k v) b = nt_J M b := by
  funext j
  rw [nt_sJ_J, if_neg h]
theorem nt_sR_R (M : nt_M) (a k : Nat) (v : Option Nat) (b j : Nat) : nt_R (nt_sR M a k v) b j = if b = a then (if j = k then v else nt_R M b j) else nt_R M b j := rfl
theorem nt_sR_Rb (M : nt_M) (a k : Nat) (v : Option Nat) {b : Nat} (h : b ≠ a) : nt_R (nt_sR M a k v) b = nt_R M b := by
  funext j
  rw [nt_sR_R, if_neg h]
theorem nt_E_eq {cy : Nat → ClassId} {ad : Nat → Nat} {M M' : nt_M} {b : Nat} (h1 : nt_k M' b = nt_k M b) (h2 : nt_l M' b = nt_l M b) (h3 : nt_I M' b = nt_I M b) (h4 : nt_J M' b = nt_J M b) (h5 : nt_R M' b = nt_R M b) : nt_E cy ad M' b = nt_E cy ad M b := by
  unfold nt_E nt_fs
  have e : ∀ c, nt_F ad M' b c = nt_F ad M b c := fun c => by
    funext j
    unfold nt_F
    rw [h3, h4, h5]
  rw [h1, h2, h3, h4, h5, e]
theorem nt_w_sI {cy : Nat → ClassId} {ad : Nat → Nat} (M : nt_M) (a k : Nat) (v : Int32) : nt_w cy ad (nt_sI M a k v) = (nt_w cy ad M).set a (ad a, nt_E cy ad (nt_sI M a k v) a) :=
  nt_w_set rfl (fun b hb => nt_E_eq rfl rfl (nt_sI_Ib M a k v hb) rfl rfl)
theorem nt_w_sJ {cy : Nat → ClassId} {ad : Nat → Nat} (M : nt_M) (a k : Nat) (v : Int64) : nt_w cy ad (nt_sJ M a k v) = (nt_w cy ad M).set a (ad a, nt_E cy ad (nt_sJ M a k v) a) :=
  nt_w_set rfl (fun b hb => nt_E_eq rfl rfl rfl (nt_sJ_Jb M a k v hb) rfl)
theorem nt_w_sR {cy : Nat → ClassId} {ad : Nat → Nat} (M : nt_M) (a k : Nat) (v : Option Nat) : nt_w cy ad (nt_sR M a k v) = (nt_w cy ad M).set a (ad a, nt_E cy ad (nt_sR M a k v) a) :=
  nt_w_set rfl (fun b hb => nt_E_eq rfl rfl rfl rfl (nt_sR_Rb M a k v hb))
theorem nt_w_wI {cy : Nat → ClassId} {ad : Nat → Nat} (M : nt_M) (a : Nat) (f : Nat → Int32) : nt_w cy ad (nt_wI M a f) = (nt_w cy ad M).set a (ad a, nt_E cy ad (nt_wI M a f) a) :=
  nt_w_set rfl (fun b hb => nt_E_eq rfl rfl (by show nt_u1 (nt_I M) a f b = nt_I M b; unfold nt_u1; rw [if_neg hb]) rfl rfl)
/-! the locals -/
theorem nt_s1_map (ad : Nat → Nat) (ls : nt_V) (i : Nat) (v : Value) : (i, nt_tv ad v) :: (ls.map (nt_tq ad)).filter (fun q => !(q.1 == i) && !(q.1 + 1 == i && q.2.category == 2)) = (nt_s1 ls i v).map (nt_tq ad) := by
  unfold nt_s1
  rw [List.map_cons, List.filter_map]
  have e : ((fun q : Nat × Value => !(q.1 == i) && !(q.1 + 1 == i && q.2.category == 2)) ∘ nt_tq ad) = (fun q : Nat × Value => !(q.1 == i) && !(q.1 + 1 == i && q.2.category == 2)) := by
    funext q
    show (!(q.1 == i) && !(q.1 + 1 == i && (nt_tv ad q.2).category == 2)) = _
    rw [nt_tv_cat]
  rw [e]
  rfl
theorem nt_s2_map (ad : Nat → Nat) (ls : nt_V) (i : Nat) (v : Value) : (i, nt_tv ad v) :: (ls.map (nt_tq ad)).filter (fun q => !(q.1 == i) && (!(q.1 == i + 1) && !(q.1 + 1 == i && q.2.category == 2))) = (nt_s2 ls i v).map (nt_tq ad) := by
  unfold nt_s2
  rw [List.map_cons, List.filter_map]
  have e : ((fun q : Nat × Value => !(q.1 == i) && (!(q.1 == i + 1) && !(q.1 + 1 == i && q.2.category == 2))) ∘ nt_tq ad) = (fun q : Nat × Value => !(q.1 == i) && (!(q.1 == i + 1) && !(q.1 + 1 == i && q.2.category == 2))) := by
    funext q
    show (!(q.1 == i) && (!(q.1 == i + 1) && !(q.1 + 1 == i && (nt_tv ad q.2).category == 2))) = _
    rw [nt_tv_cat]
  rw [e]
  rfl
theorem nt_lk_get : ∀ {ls : nt_V} {i : Nat} {v : Value}, nt_lk ls i = some v → ∃ k : Nat, ls[k]? = some (i, v)
  | [], i, v, h => by cases h
  | q :: t, i, v, h => by
    unfold nt_lk at h
    by_cases e : q.1 = i
    · rw [if_pos e] at h
      cases h
      subst e
      exact ⟨0, rfl⟩
    · rw [if_neg e] at h
      obtain ⟨k, hk⟩ := nt_lk_get h
      exact ⟨k + 1, hk⟩
theorem nt_lk_map {ad : Nat → Nat} {ls : nt_V} {i : Nat} {v : Value} (h : nt_lk ls i = some v) : ∃ k : Nat, (ls.map (nt_tq ad))[k]? = some (i, nt_tv ad v) := by
  obtain ⟨k, hk⟩ := nt_lk_get h
  exact ⟨k, by rw [List.getElem?_map, hk]; rfl⟩
/-! what a good step says of the stack -/
theorem nt_i1_some {st : List Value} {k : Int32 → List Value → Option nt_C} {z : nt_C} (h : nt_i1 st k = some z) : ∃ x r, st = .int x :: r ∧ k x r = some z := by
  unfold nt_i1 at h
  split at h
  · exact ⟨_, _, rfl, h⟩
  · cases h
theorem nt_i2_some {st : List Value} {k : Int32 → Int32 → List Value → Option nt_C} {z : nt_C} (h : nt_i2 st k = some z) : ∃ x y r, st = .int y :: .int x :: r ∧ k x y r = some z := by
  unfold nt_i2 at h
  split at h
  · exact ⟨_, _, _, rfl, h⟩
  · cases h
theorem nt_j1_some {st : List Value} {k : Int64 → List Value → Option nt_C} {z : nt_C} (h : nt_j1 st k = some z) : ∃ x r, st = .long x :: r ∧ k x r = some z := by
  unfold nt_j1 at h
  split at h
  · exact ⟨_, _, rfl, h⟩
  · cases h
theorem nt_j2_some {st : List Value} {k : Int64 → Int64 → List Value → Option nt_C} {z : nt_C} (h : nt_j2 st k = some z) : ∃ x y r, st = .long y :: .long x :: r ∧ k x y r = some z := by
  unfold nt_j2 at h
  split at h
  · exact ⟨_, _, _, rfl, h⟩
  · cases h
theorem nt_a1_some {st : List Value} {k : Nat → List Value → Option nt_C} {z : nt_C} (h : nt_a1 st k = some z) : ∃ x r, st = .ref x :: r ∧ k x r = some z := by
  unfold nt_a1 at h
  split at h
  · exact ⟨_, _, rfl, h⟩
  · cases h
theorem nt_ia_some {st : List Value} {k : Int32 → Nat → List Value → Option nt_C} {z : nt_C} (h : nt_ia st k = some z) : ∃ i a r, st = .int i :: .ref a :: r ∧ k i a r = some z := by
  unfold nt_ia at h
  split at h
  · exact ⟨_, _, _, rfl, h⟩
  · cases h
theorem nt_iia_some {st : List Value} {k : Int32 → Int32 → Nat → List Value → Option nt_C} {z : nt_C} (h : nt_iia st k = some z) : ∃ x i a r, st = .int x :: .int i :: .ref a :: r ∧ k x i a r = some z := by
  unfold nt_iia at h
  split at h
  · exact ⟨_, _, _, _, rfl, h⟩
  · cases h
theorem nt_jia_some {st : List Value} {k : Int64 → Int32 → Nat → List Value → Option nt_C} {z : nt_C} (h : nt_jia st k = some z) : ∃ x i a r, st = .long x :: .int i :: .ref a :: r ∧ k x i a r = some z := by
  unfold nt_jia at h
  split at h
  · exact ⟨_, _, _, _, rfl, h⟩
  · cases h
theorem nt_aia_some {st : List Value} {k : Nat → Int32 → Nat → List Value → Option nt_C} {z : nt_C} (h : nt_aia st k = some z) : ∃ x i a r, st = .ref x :: .int i :: .ref a :: r ∧ k x i a r = some z := by
  unfold nt_aia at h
  split at h
  · exact ⟨_, _, _, _, rfl, h⟩
  · cases h
theorem nt_lkI_some {ls : nt_V} {i : Nat} {k : Int32 → Option nt_C} {z : nt_C} (h : nt_lkI ls i k = some z) : ∃ x, nt_lk ls i = some (.int x) ∧ k x = some z := by
  unfold nt_lkI at h
  split at h
  · rename_i e
    exact ⟨_, e, h⟩
  · cases h
theorem nt_lkJ_some {ls : nt_V} {i : Nat} {k : Int64 → Option nt_C} {z : nt_C} (h : nt_lkJ ls i k = some z) : ∃ x, nt_lk ls i = some (.long x) ∧ k x = some z := by
  unfold nt_lkJ at h
  split at h
  · rename_i e
    exact ⟨_, e, h⟩
  · cases h
theorem nt_lkA_some {ls : nt_V} {i : Nat} {k : Value → Option nt_C} {z : nt_C} (h : nt_lkA ls i k = some z) : (∃ x, nt_lk ls i = some (.ref x) ∧ k (.ref x) = some z) ∨ (nt_lk ls i = some .null ∧ k .null = some z) := by
  unfold nt_lkA at h
  split at h
  · rename_i e
    exact Or.inl ⟨_, e, h⟩
  · rename_i e
    exact Or.inr ⟨e, h⟩
  · cases h
theorem nt_stA_some {st : List Value} {k : Value → List Value → Option nt_C} {z : nt_C} (h : nt_stA st k = some z) : (∃ x r, st = .ref x :: r ∧ k (.ref x) r = some z) ∨ (∃ r, st = .null :: r ∧ k .null r = some z) := by
  unfold nt_stA at h
  split at h
  · exact Or.inl ⟨_, _, rfl, h⟩
  · exact Or.inr ⟨_, rfl, h⟩
  · cases h
theorem nt_jp_some {pc : Nat} {off : Int} {k : Nat → Option nt_C} {z : nt_C} (h : nt_jp pc off k = some z) : ∃ q : Nat, (pc : Int) + off = (q : Int) ∧ k q = some z := by
  unfold nt_jp at h
  split at h
  · rename_i e
    exact ⟨_, by omega, h⟩
  · cases h
theorem nt_if_some {α : Type} {p : Prop} [Decidable p] {x : Option α} {z : α} (h : (if p then x else none) = some z) : p ∧ x = some z := by
  split at h
  · rename_i e
    exact ⟨e, h⟩
  · cases h
theorem nt_ifn_some {α : Type} {p : Prop} [Decidable p] {x : Option α} {z : α} (h : (if p then none else x) = some z) : ¬ p ∧ x = some z := by
  split at h
  · cases h
  · rename_i e
    exact ⟨e, h⟩
theorem nt_in_some {α : Type} {M : nt_M} {a kd : Nat} {i : Int32} {x : Option α} {z : α} (h : nt_in M a kd i x = some z) : a < nt_n M ∧ nt_k M a = kd ∧ vp_in i (nt_l M a) ∧ x = some z := by
  unfold nt_in at h
  obtain ⟨h1, h2⟩ := nt_if_some h
  exact ⟨h1.1, h1.2.1, h1.2.2, h2⟩
theorem nt_dec {mi pc g t : Nat} {ins : Instr} (h : nt_okE mi (pc, ins, g, t) = true) (hs : nt_sw ins = false) : decode (nt_m mi).2.1 pc = .ok (ins, nt_len ins) := by
  unfold nt_okE at h
  rw [Bool.and_eq_true] at h
  have h1 := h.1
  unfold nt_okD at h1
  split at h1
  · rename_i i n e
    rw [Bool.and_eq_true, decide_eq_true_eq] at h1
    obtain ⟨rfl, h2⟩ := h1
    rw [hs, Bool.or_false] at h2
    rw [e, Nat.eq_of_beq_eq_true h2]
  · cases h1
theorem nt_decS {mi pc g t : Nat} {ins : Instr} (h : nt_okE mi (pc, ins, g, t) = true) : ∃ n, decode (nt_m mi).2.1 pc = .ok (ins, n) := by
  unfold nt_okE at h
  rw [Bool.and_eq_true] at h
  have h1 := h.1
  unfold nt_okD at h1
  split at h1
  · rename_i i n e
    rw [Bool.and_eq_true, decide_eq_true_eq] at h1
    obtain ⟨rfl, h2⟩ := h1
    exact ⟨n, e⟩
  · cases h1
theorem nt_okE_R {mi : Nat} {e : Nat × Instr × Nat × Nat} (h : nt_okE mi e = true) : nt_okR (nt_m mi).2.2.2.2.1 e = true := by
  unfold nt_okE at h
  rw [Bool.and_eq_true, Bool.and_eq_true] at h
  exact h.2.1
theorem nt_okE_L {mi : Nat} {e : Nat × Instr × Nat × Nat} (h : nt_okE mi e = true) : nt_okL (nt_m mi).2.2.1 e = true := by
  unfold nt_okE at h
  rw [Bool.and_eq_true, Bool.and_eq_true] at h
  exact h.2.2
