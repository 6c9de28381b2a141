/-! states told by sums of unknowns -/
abbrev sx_V : Type := Nat × Nat × sx_L
abbrev sx_I : Type := List ((Nat × sx_L) × sx_L)
abbrev sx_R : Type := List ((Nat × sx_L) × Nat)
/-- int cells, ref cells, bounds and sums, the next unknown -/
abbrev sx_N : Type := sx_I × sx_R × (sx_B × List sx_L) × Nat
/-- place in the code, locals, stack, the rest -/
abbrev sx_A : Type := Nat × List (Nat × sx_V) × List sx_V × sx_N
abbrev sx_T : Type := List (Nat × List (Int × Int))
/-- of each region: kind, least and most length, which table of bounds its ints have -/
abbrev sx_D : Type := List (Nat × Int × Int × Nat)
def sx_iv : sx_T → Nat → Int × Int
  | [], _ => (-2147483648, 2147483647)
  | q :: t, j => if q.1 ≤ j then q.2.getD ((j - q.1) % q.2.length) (-2147483648, 2147483647) else sx_iv t j
/-- tables and what ghosts look at; regions; what may change of ints (from, to) and refs; how many unknowns are fixed -/
abbrev sx_E : Type := (List sx_T × List (List Nat)) × sx_D × List (Nat × Int × Int) × List (Nat × Nat) × Nat
/-- where regions lie, the memory at first, what the fixed unknowns are, the ghosts -/
abbrev sx_F : Type := (Nat → Nat) × nt_M × (Nat → Int) × (Nat → (Nat → Nat → Int32) → Int → Int)
/-- 0 an int, 1 a long, 2 a region's ref, 3 null, 4 an int of that sign, 5 a text -/
def sx_v (pl : Nat → Nat) (r : Nat → Int) (a : sx_V) (v : Value) : Prop := match a.1 with
  | 0 => ∃ x : Int32, v = .int x ∧ x.toInt = sx_e r a.2.2
  | 1 => ∃ x : Int64, v = .long x ∧ x.toInt = sx_e r a.2.2
  | 2 => v = .ref (pl a.2.1)
  | 3 => v = .null
  | 4 => ∃ x : Int32, v = .int x ∧ (x.toInt < 0 ↔ sx_e r a.2.2 < 0) ∧ (x.toInt = 0 ↔ sx_e r a.2.2 = 0)
  | 5 => v = .ref (nt_sp + 1 + a.2.1)
  | _ => False
def sx_os (pl : Nat → Nat) (r : Nat → Int) : List sx_V → List Value → Prop
  | [], [] => True
  | a :: t, v :: u => sx_v pl r a v ∧ sx_os pl r t u
  | _, _ => False
def sx_ol (pl : Nat → Nat) (r : Nat → Int) (ls : List (Nat × sx_V)) (cl : nt_V) : Prop := ∀ q ∈ ls, ∃ v, nt_lk cl q.1 = some v ∧ sx_v pl r q.2 v
def sx_hp (E : sx_E) (pl : Nat → Nat) (M : nt_M) : Prop := nt_n M ≤ nt_sp ∧ ∀ g q, E.2.1[g]? = some q → pl g < nt_n M ∧ nt_k M (pl g) = q.1 ∧ (q.2.1 ≤ (nt_l M (pl g) : Int) ∧ (nt_l M (pl g) : Int) ≤ q.2.2.1) ∧ nt_l M (pl g) < 2147483648 ∧ ∀ j, (sx_iv (E.1.1.getD q.2.2.2 []) j).1 ≤ (nt_I M (pl g) j).toInt ∧ (nt_I M (pl g) j).toInt ≤ (sx_iv (E.1.1.getD q.2.2.2 []) j).2
def sx_ij (E : sx_E) (pl : Nat → Nat) : Prop := ∀ g h, g < E.2.1.length → h < E.2.1.length → pl g = pl h → g = h
/-- a ghost at i hangs on what lies ahead of i alone -/
def sx_gh (E : sx_E) (F : sx_F) : Prop := ∀ (g : Nat) (p q : Nat → Nat → Int32) (i : Int), (∀ h ∈ E.1.2.getD g [], ∀ j : Nat, (j : Int) < i → p h j = q h j) → F.2.2.2 g p i = F.2.2.2 g q i
/-- the regions that ghosts look at are regions -/
def sx_gd (E : sx_E) : Bool := E.1.2.all (fun l => l.all fun h => Nat.blt h E.2.1.length)
/-- an int of a cell; below 0: its length; of a ghost: what it says -/
def sx_rd (F : sx_F) (M : nt_M) (g : Nat) (i : Int) : Int := if 100 ≤ g then F.2.2.2 (g - 100) (fun h j => nt_I M (F.1 h) j) i else if i < 0 then (nt_l M (F.1 g) : Int) else (nt_I M (F.1 g) i.toNat).toInt
def sx_oi (E : sx_E) (F : sx_F) (r : Nat → Int) (ic : sx_I) (M : nt_M) : Prop := ∀ q ∈ ic, (q.1.1 < E.2.1.length ∨ 100 ≤ q.1.1) ∧ sx_rd F M q.1.1 (sx_e r q.1.2) = sx_e r q.2
def sx_rq (pl : Nat → Nat) (k : Nat) : Option Nat := if k = 0 then none else some (pl (k - 1))
def sx_or (E : sx_E) (pl : Nat → Nat) (r : Nat → Int) (rc : sx_R) (M : nt_M) : Prop := ∀ q ∈ rc, (q.1.1 < E.2.1.length ∧ q.2 ≤ E.2.1.length) ∧ 0 ≤ sx_e r q.1.2 ∧ nt_R M (pl q.1.1) (sx_e r q.1.2).toNat = sx_rq pl q.2
/-- what may have changed -/
def sx_fm (E : sx_E) (pl : Nat → Nat) (M0 M : nt_M) : Prop := (nt_n M = nt_n M0 ∧ nt_z M = nt_z M0 ∧ nt_k M = nt_k M0 ∧ nt_l M = nt_l M0) ∧ (∀ (a j : Nat), (∀ q ∈ E.2.2.1, q.1 < E.2.1.length → ¬ (a = pl q.1 ∧ q.2.1 ≤ (j : Int) ∧ (j : Int) ≤ q.2.2)) → nt_I M a j = nt_I M0 a j) ∧ (∀ (a j : Nat), (∀ q ∈ E.2.2.2.1, q.1 < E.2.1.length → ¬ (a = pl q.1 ∧ q.2 = j)) → nt_R M a j = nt_R M0 a j) ∧ (∀ a, (∀ g, g < E.2.1.length → a ≠ pl g) → nt_J M a = nt_J M0 a)
theorem sx_fm_rf {E : sx_E} {pl : Nat → Nat} {M : nt_M} : sx_fm E pl M M := ⟨⟨rfl, rfl, rfl, rfl⟩, fun _ _ _ => rfl, fun _ _ _ => rfl, fun _ _ => rfl⟩
theorem sx_fm_tr {E : sx_E} {pl : Nat → Nat} {M0 M1 M2 : nt_M} (h1 : sx_fm E pl M0 M1) (h2 : sx_fm E pl M1 M2) : sx_fm E pl M0 M2 := by
  obtain ⟨⟨a1, a2, a3, a4⟩, a5, a6, a7⟩ := h1
  obtain ⟨⟨b1, b2, b3, b4⟩, b5, b6, b7⟩ := h2
  exact ⟨⟨b1.trans a1, b2.trans a2, b3.trans a3, b4.trans a4⟩, fun a j h => (b5 a j h).trans (a5 a j h), fun a j h => (b6 a j h).trans (a6 a j h), fun a h => (b7 a h).trans (a7 a h)⟩
def sx_on (E : sx_E) (F : sx_F) (r : Nat → Int) (N : sx_N) (M : nt_M) : Prop := (sx_gh E F ∧ sx_ij E F.1) ∧ sx_hp E F.1 M ∧ sx_oi E F r N.1 M ∧ sx_or E F.1 r N.2.1 M ∧ (sx_ob r N.2.2.1.1 ∧ sx_oc r N.2.2.1.2) ∧ (∀ s, s < E.2.2.2.2 → r s = F.2.2.1 s) ∧ sx_fm E F.1 F.2.1 M
def sx_ok (E : sx_E) (F : sx_F) (r : Nat → Int) (A : sx_A) (c : nt_C) : Prop := A.1 = c.1 ∧ sx_ol F.1 r A.2.1 c.2.1 ∧ sx_os F.1 r A.2.2.1 c.2.2.1 ∧ sx_on E F r A.2.2.2 c.2.2.2
/-- one of these states stands -/
def sx_an (E : sx_E) (F : sx_F) (As : List sx_A) (c : nt_C) : Prop := ∃ A ∈ As, ∃ r, sx_ok E F r A c
theorem sx_an1 {E : sx_E} {F : sx_F} {r : Nat → Int} {A : sx_A} {c : nt_C} (h : sx_ok E F r A c) : sx_an E F [A] c := ⟨A, List.mem_cons_self .., r, h⟩
/-- all unknowns are below n -/
def sx_fV (n : Nat) (a : sx_V) : Bool := sx_lw n a.2.2
def sx_fN (n0 : Nat) (N : sx_N) : Bool := N.1.all (fun q => sx_lw N.2.2.2 q.1.2 && sx_lw N.2.2.2 q.2) && (N.2.1.all (fun q => sx_lw N.2.2.2 q.1.2) && (N.2.2.1.1.all (fun q => Nat.blt q.1 N.2.2.2) && (N.2.2.1.2.all (sx_lw N.2.2.2) && Nat.ble n0 N.2.2.2)))
def sx_fA (n0 : Nat) (ls : List (Nat × sx_V)) (st : List sx_V) (N : sx_N) : Bool := ls.all (fun q => sx_fV N.2.2.2 q.2) && (st.all (sx_fV N.2.2.2) && sx_fN n0 N)
theorem sx_v_up {pl : Nat → Nat} {r r' : Nat → Int} {n : Nat} (h : ∀ s, s < n → r' s = r s) {a : sx_V} {v : Value} (hl : sx_fV n a = true) (hv : sx_v pl r a v) : sx_v pl r' a v := by
  have e : sx_e r' a.2.2 = sx_e r a.2.2 := sx_e_up h hl
  unfold sx_v at hv ⊢
  rw [e]
  exact hv
theorem sx_os_up {pl : Nat → Nat} {r r' : Nat → Int} {n : Nat} (h : ∀ s, s < n → r' s = r s) : ∀ (st : List sx_V) (cs : List Value), st.all (sx_fV n) = true → sx_os pl r st cs → sx_os pl r' st cs
  | [], [], _, _ => trivial
  | a :: t, v :: u, hl, hv => by
    rw [List.all_cons, Bool.and_eq_true] at hl
    exact ⟨sx_v_up h hl.1 hv.1, sx_os_up h t u hl.2 hv.2⟩
  | [], _ :: _, _, hv => hv.elim
  | _ :: _, [], _, hv => hv.elim
theorem sx_ol_up {pl : Nat → Nat} {r r' : Nat → Int} {n : Nat} (h : ∀ s, s < n → r' s = r s) {ls : List (Nat × sx_V)} {cl : nt_V} (hl : ls.all (fun q => sx_fV n q.2) = true) (hv : sx_ol pl r ls cl) : sx_ol pl r' ls cl := fun q hq => by
  obtain ⟨v, h1, h2⟩ := hv q hq
  exact ⟨v, h1, sx_v_up h (List.all_eq_true.mp hl q hq) h2⟩
theorem sx_on_up {E : sx_E} {F : sx_F} {r r' : Nat → Int} {N : sx_N} {M : nt_M} (h : ∀ s, s < N.2.2.2 → r' s = r s) (hl : sx_fN E.2.2.2.2 N = true) (hN : sx_on E F r N M) : sx_on E F r' N M := by
  obtain ⟨h0, h1, h2, h3, ⟨h4, h5⟩, h6, h7⟩ := hN
  unfold sx_fN at hl
  rw [Bool.and_eq_true, Bool.and_eq_true, Bool.and_eq_true, Bool.and_eq_true] at hl
  obtain ⟨l1, l2, l3, l4, l5⟩ := hl
  have l5 : E.2.2.2.2 ≤ N.2.2.2 := Nat.le_of_ble_eq_true l5
  refine ⟨h0, h1, fun q hq => ?_, fun q hq => ?_, ⟨fun q hq => ?_, fun C hC => ?_⟩, fun s hs => ?_, h7⟩
  · have l := List.all_eq_true.mp l1 q hq
    rw [Bool.and_eq_true] at l
    rw [sx_e_up h l.1, sx_e_up h l.2]
    exact h2 q hq
  · rw [sx_e_up h (List.all_eq_true.mp l2 q hq)]
    exact h3 q hq
  · have l := List.all_eq_true.mp l3 q hq
    rw [h _ (Nat.blt_eq.mp l)]
    exact h4 q hq
  · rw [sx_e_up h (List.all_eq_true.mp l4 C hC)]
    exact h5 C hC
  · rw [h s (by omega)]
    exact h6 s hs
def sx_ud (r : Nat → Int) (n : Nat) (v : Int) : Nat → Int := fun s => if s = n then v else r s
/-- one unknown more, with its bounds -/
def sx_fr (n0 : Nat) (lo hi : Int) (ls : List (Nat × sx_V)) (st : List sx_V) (N : sx_N) : Option sx_N := if sx_fA n0 ls st N = true then some (N.1, N.2.1, ((N.2.2.2, lo, hi) :: N.2.2.1.1, N.2.2.1.2), N.2.2.2 + 1) else none
theorem sx_fr_ok {E : sx_E} {F : sx_F} {r : Nat → Int} {lo hi v : Int} {ls : List (Nat × sx_V)} {st : List sx_V} {N N' : sx_N} {cl : nt_V} {cs : List Value} {M : nt_M} (h : sx_fr E.2.2.2.2 lo hi ls st N = some N') (h1 : sx_ol F.1 r ls cl) (h2 : sx_os F.1 r st cs) (h3 : sx_on E F r N M) (hl : lo ≤ v) (hh : v ≤ hi) : ∃ r', sx_ol F.1 r' ls cl ∧ sx_os F.1 r' st cs ∧ sx_on E F r' N' M ∧ sx_e r' (0, [(N.2.2.2, 1)]) = v ∧ (∀ s, s < N.2.2.2 → r' s = r s) ∧ N'.2.2.2 = N.2.2.2 + 1 := by
  unfold sx_fr at h
  obtain ⟨hf, h⟩ := nt_if_some h
  cases h
  unfold sx_fA at hf
  rw [Bool.and_eq_true, Bool.and_eq_true] at hf
  obtain ⟨f1, f2, f3⟩ := hf
  have hu : ∀ s, s < N.2.2.2 → sx_ud r N.2.2.2 v s = r s := fun s hs => if_neg (by omega)
  have hN := sx_on_up hu f3 h3
  obtain ⟨g0, g1, g2, g3, ⟨g4, g5⟩, g6, g7⟩ := hN
  have e : sx_ud r N.2.2.2 v N.2.2.2 = v := if_pos rfl
  refine ⟨_, sx_ol_up hu f1 h1, sx_os_up hu _ _ f2 h2, ⟨g0, g1, g2, g3, ⟨fun q hq => ?_, g5⟩, g6, g7⟩, by rw [sx_s_e]; exact e, hu, rfl⟩
  rcases List.mem_cons.mp hq with q1 | q1
  · rw [q1]; dsimp only; rw [e]; exact ⟨hl, hh⟩
  · exact g4 q q1
/-- it follows -/
def sx_p (N : sx_N) (L : sx_L) : Bool := sx_pr N.2.2.1.1 N.2.2.1.2 L
theorem sx_p_ok {E : sx_E} {F : sx_F} {r : Nat → Int} {N : sx_N} {M : nt_M} {L : sx_L} (h : sx_on E F r N M) (hp : sx_p N L = true) : 0 ≤ sx_e r L := sx_pr_ok h.2.2.2.2.1.1 h.2.2.2.2.1.2 hp
/-- these hold, too -/
def sx_am (Ls : List sx_L) (N : sx_N) : sx_N := (N.1, N.2.1, Ls.foldl (fun b L => sx_as L b) N.2.2.1, N.2.2.2)
theorem sx_am_f {r : Nat → Int} : ∀ (Ls : List sx_L) (b : sx_B × List sx_L), (∀ L ∈ Ls, 0 ≤ sx_e r L) → (sx_ob r b.1 ∧ sx_oc r b.2) → sx_ob r (Ls.foldl (fun b L => sx_as L b) b).1 ∧ sx_oc r (Ls.foldl (fun b L => sx_as L b) b).2
  | [], _, _, h => h
  | L :: t, b, hL, h => sx_am_f t _ (fun L' h' => hL L' (List.mem_cons_of_mem _ h')) (sx_as_ok h.1 h.2 (hL L (List.mem_cons_self ..)))
theorem sx_am_ok {E : sx_E} {F : sx_F} {r : Nat → Int} {N : sx_N} {M : nt_M} {Ls : List sx_L} (h : sx_on E F r N M) (hL : ∀ L ∈ Ls, 0 ≤ sx_e r L) : sx_on E F r (sx_am Ls N) M := ⟨h.1, h.2.1, h.2.2.1, h.2.2.2.1, sx_am_f Ls _ hL h.2.2.2.2.1, h.2.2.2.2.2⟩
/-- nothing is so -/
def sx_de (N : sx_N) : Bool := sx_dd N.2.2.1
theorem sx_de_ok {E : sx_E} {F : sx_F} {r : Nat → Int} {N : sx_N} {M : nt_M} (h : sx_on E F r N M) : sx_de N = false := by
  cases e : sx_de N with
  | false => rfl
  | true => exact (sx_dd_ok h.2.2.2.2.1.1 h.2.2.2.2.1.2 e).elim
/-- a branch: the ways to go on at a, and at b -/
def sx_br (a b : Nat) (ya yb : List (List sx_L)) (ls : List (Nat × sx_V)) (st : List sx_V) (N : sx_N) : List sx_A := ((ya.map fun Ls => (a, ls, st, sx_am Ls N)) ++ (yb.map fun Ls => (b, ls, st, sx_am Ls N))).filter (fun A => !sx_de A.2.2.2)
theorem sx_br_ok {E : sx_E} {F : sx_F} {r : Nat → Int} {a b : Nat} {ya yb : List (List sx_L)} {ls : List (Nat × sx_V)} {st : List sx_V} {N : sx_N} {cl : nt_V} {cs : List Value} {M : nt_M} {P : Prop} [Decidable P] (h1 : sx_ol F.1 r ls cl) (h2 : sx_os F.1 r st cs) (h3 : sx_on E F r N M) (ha : P → ∃ Ls ∈ ya, ∀ L ∈ Ls, 0 ≤ sx_e r L) (hb : ¬ P → ∃ Ls ∈ yb, ∀ L ∈ Ls, 0 ≤ sx_e r L) : sx_an E F (sx_br a b ya yb ls st N) (if P then a else b, cl, cs, M) := by
  have key : ∀ (k : Nat) (Ls : List sx_L), (∀ L ∈ Ls, 0 ≤ sx_e r L) → (k, ls, st, sx_am Ls N) ∈ ((ya.map fun Ls => (a, ls, st, sx_am Ls N)) ++ (yb.map fun Ls => (b, ls, st, sx_am Ls N))) → sx_an E F (sx_br a b ya yb ls st N) (k, cl, cs, M) := by
    intro k Ls hL hm
    have h4 := sx_am_ok h3 hL
    refine ⟨_, List.mem_filter.mpr ⟨hm, ?_⟩, r, rfl, h1, h2, h4⟩
    show (!sx_de (sx_am Ls N)) = true
    rw [sx_de_ok h4]; rfl
  by_cases h : P
  · rw [if_pos h]
    obtain ⟨Ls, m, hL⟩ := ha h
    exact key a Ls hL (List.mem_append_left _ (List.mem_map.mpr ⟨Ls, m, rfl⟩))
  · rw [if_neg h]
    obtain ⟨Ls, m, hL⟩ := hb h
    exact key b Ls hL (List.mem_append_right _ (List.mem_map.mpr ⟨Ls, m, rfl⟩))
/-- how a sum can be other than 0 -/
def sx_ne (sp : Bool) (N : sx_N) (L : sx_L) : List (List sx_L) := if sx_p N L = true then [[sx_add (-1, []) L]] else if sx_p N (sx_mul (-1) L) = true then [[sx_sub (-1, []) L]] else if sp = true then [[sx_add (-1, []) L], [sx_sub (-1, []) L]] else [[]]
def sx_eq (L : sx_L) : List (List sx_L) := [[L, sx_mul (-1) L]]
def sx_lt (L : sx_L) : List (List sx_L) := [[sx_sub (-1, []) L]]
def sx_ge (L : sx_L) : List (List sx_L) := [[L]]
def sx_gt (L : sx_L) : List (List sx_L) := [[sx_add (-1, []) L]]
def sx_le (L : sx_L) : List (List sx_L) := [[sx_mul (-1) L]]
theorem sx_1 {r : Nat → Int} {L : sx_L} (h : 0 ≤ sx_e r L) : ∃ Ls ∈ [[L]], ∀ C ∈ Ls, 0 ≤ sx_e r C := ⟨[L], List.mem_cons_self .., fun C hC => by rw [List.mem_singleton.mp hC]; exact h⟩
theorem sx_ne_ok {E : sx_E} {F : sx_F} {sp : Bool} {r : Nat → Int} {N : sx_N} {M : nt_M} {L : sx_L} (hN : sx_on E F r N M) (h : ¬ sx_e r L = 0) : ∃ Ls ∈ sx_ne sp N L, ∀ C ∈ Ls, 0 ≤ sx_e r C := by
  unfold sx_ne
  by_cases h1 : sx_p N L = true
  · rw [if_pos h1]
    have := sx_p_ok hN h1
    exact sx_1 (by rw [sx_add_e, sx_c_e]; omega)
  · rw [if_neg h1]
    by_cases h2 : sx_p N (sx_mul (-1) L) = true
    · rw [if_pos h2]
      have := sx_p_ok hN h2
      rw [sx_mul_e] at this
      exact sx_1 (by rw [sx_sub_e, sx_c_e]; omega)
    · rw [if_neg h2]
      by_cases h3 : sp = true
      · rw [if_pos h3]
        by_cases h4 : 0 ≤ sx_e r L
        · exact ⟨_, List.mem_cons_self .., fun C hC => by rw [List.mem_singleton.mp hC, sx_add_e, sx_c_e]; omega⟩
        · exact ⟨_, List.mem_cons_of_mem _ (List.mem_cons_self ..), fun C hC => by rw [List.mem_singleton.mp hC, sx_sub_e, sx_c_e]; omega⟩
      · rw [if_neg h3]
        exact ⟨[], List.mem_cons_self .., fun C hC => by cases hC⟩
theorem sx_eq_ok {r : Nat → Int} {L : sx_L} (h : sx_e r L = 0) : ∃ Ls ∈ sx_eq L, ∀ C ∈ Ls, 0 ≤ sx_e r C := ⟨_, List.mem_cons_self .., fun C hC => by
  rcases List.mem_cons.mp hC with e | e
  · rw [e]; omega
  · rw [List.mem_singleton.mp e, sx_mul_e]; omega⟩
theorem sx_lt_ok {r : Nat → Int} {L : sx_L} (h : sx_e r L < 0) : ∃ Ls ∈ sx_lt L, ∀ C ∈ Ls, 0 ≤ sx_e r C := sx_1 (by rw [sx_sub_e, sx_c_e]; omega)
theorem sx_ge_ok {r : Nat → Int} {L : sx_L} (h : 0 ≤ sx_e r L) : ∃ Ls ∈ sx_ge L, ∀ C ∈ Ls, 0 ≤ sx_e r C := sx_1 h
theorem sx_gt_ok {r : Nat → Int} {L : sx_L} (h : 0 < sx_e r L) : ∃ Ls ∈ sx_gt L, ∀ C ∈ Ls, 0 ≤ sx_e r C := sx_1 (by rw [sx_add_e, sx_c_e]; omega)
theorem sx_le_ok {r : Nat → Int} {L : sx_L} (h : sx_e r L ≤ 0) : ∃ Ls ∈ sx_le L, ∀ C ∈ Ls, 0 ≤ sx_e r C := sx_1 (by rw [sx_mul_e]; omega)
