/-! sums of unknowns, and what follows of them -/
abbrev sx_L : Type := Int × List (Nat × Int)
abbrev sx_B : Type := List (Nat × Int × Int)
def sx_t (r : Nat → Int) : List (Nat × Int) → Int
  | [] => 0
  | q :: t => q.2 * r q.1 + sx_t r t
/-- what a sum is, of what the unknowns are -/
def sx_e (r : Nat → Int) (L : sx_L) : Int := L.1 + sx_t r L.2
def sx_in (s : Nat) (c : Int) : List (Nat × Int) → List (Nat × Int)
  | [] => [(s, c)]
  | q :: t => if q.1 = s then (if q.2 + c = 0 then t else (s, q.2 + c) :: t) else if s < q.1 then (s, c) :: q :: t else q :: sx_in s c t
def sx_ad : List (Nat × Int) → List (Nat × Int) → List (Nat × Int)
  | [], b => b
  | q :: t, b => sx_in q.1 q.2 (sx_ad t b)
def sx_add (A B : sx_L) : sx_L := (A.1 + B.1, sx_ad A.2 B.2)
def sx_mu (c : Int) : List (Nat × Int) → List (Nat × Int)
  | [] => []
  | q :: t => (q.1, c * q.2) :: sx_mu c t
def sx_mul (c : Int) (A : sx_L) : sx_L := if c = 0 then (0, []) else (c * A.1, sx_mu c A.2)
def sx_sub (A B : sx_L) : sx_L := sx_add (sx_mul (-1) B) A
theorem sx_in_e (r : Nat → Int) (s : Nat) (c : Int) : ∀ l, sx_t r (sx_in s c l) = c * r s + sx_t r l
  | [] => by simp [sx_in, sx_t]
  | q :: t => by
    unfold sx_in
    by_cases h : q.1 = s
    · rw [if_pos h]
      by_cases h2 : q.2 + c = 0
      · rw [if_pos h2]
        have e : (q.2 + c) * r s = 0 := by rw [h2, Int.zero_mul]
        rw [Int.add_mul] at e
        show sx_t r t = c * r s + (q.2 * r q.1 + sx_t r t)
        rw [h]; omega
      · rw [if_neg h2]
        show (q.2 + c) * r s + sx_t r t = c * r s + (q.2 * r q.1 + sx_t r t)
        rw [h, Int.add_mul]; omega
    · rw [if_neg h]
      by_cases h3 : s < q.1
      · rw [if_pos h3]; rfl
      · rw [if_neg h3]
        show q.2 * r q.1 + sx_t r (sx_in s c t) = c * r s + (q.2 * r q.1 + sx_t r t)
        rw [sx_in_e r s c t]; omega
theorem sx_ad_e (r : Nat → Int) : ∀ a b, sx_t r (sx_ad a b) = sx_t r a + sx_t r b
  | [], b => by simp [sx_ad, sx_t]
  | q :: t, b => by
    show sx_t r (sx_in q.1 q.2 (sx_ad t b)) = q.2 * r q.1 + sx_t r t + sx_t r b
    rw [sx_in_e, sx_ad_e r t b]; omega
theorem sx_add_e (r : Nat → Int) (A B : sx_L) : sx_e r (sx_add A B) = sx_e r A + sx_e r B := by
  show A.1 + B.1 + sx_t r (sx_ad A.2 B.2) = A.1 + sx_t r A.2 + (B.1 + sx_t r B.2)
  rw [sx_ad_e]; omega
theorem sx_mu_e (r : Nat → Int) (c : Int) : ∀ l, sx_t r (sx_mu c l) = c * sx_t r l
  | [] => by simp [sx_mu, sx_t]
  | q :: t => by
    show c * q.2 * r q.1 + sx_t r (sx_mu c t) = c * (q.2 * r q.1 + sx_t r t)
    rw [sx_mu_e r c t, Int.mul_add, Int.mul_assoc]
theorem sx_mul_e (r : Nat → Int) (c : Int) (A : sx_L) : sx_e r (sx_mul c A) = c * sx_e r A := by
  unfold sx_mul
  by_cases h : c = 0
  · rw [if_pos h, h, Int.zero_mul]; rfl
  · rw [if_neg h]
    show c * A.1 + sx_t r (sx_mu c A.2) = c * (A.1 + sx_t r A.2)
    rw [sx_mu_e, Int.mul_add]
theorem sx_sub_e (r : Nat → Int) (A B : sx_L) : sx_e r (sx_sub A B) = sx_e r A - sx_e r B := by
  unfold sx_sub
  rw [sx_add_e, sx_mul_e]; omega
theorem sx_c_e (r : Nat → Int) (k : Int) : sx_e r (k, []) = k := by show k + 0 = k; omega
theorem sx_s_e (r : Nat → Int) (s : Nat) : sx_e r (0, [(s, 1)]) = r s := by show 0 + (1 * r s + 0) = r s; omega
def sx_fd : sx_B → Nat → Option (Int × Int)
  | [], _ => none
  | q :: t, s => if q.1 = s then some q.2 else sx_fd t s
def sx_ob (r : Nat → Int) (bd : sx_B) : Prop := ∀ q ∈ bd, q.2.1 ≤ r q.1 ∧ r q.1 ≤ q.2.2
def sx_oc (r : Nat → Int) (cs : List sx_L) : Prop := ∀ C ∈ cs, 0 ≤ sx_e r C
theorem sx_fd_ok {r : Nat → Int} {s : Nat} {b : Int × Int} : ∀ {bd : sx_B}, sx_ob r bd → sx_fd bd s = some b → b.1 ≤ r s ∧ r s ≤ b.2
  | [], _, h => by cases h
  | q :: t, hb, h => by
    unfold sx_fd at h
    by_cases e : q.1 = s
    · rw [if_pos e] at h; cases h
      have := hb q (List.mem_cons_self ..)
      rw [e] at this; exact this
    · rw [if_neg e] at h
      exact sx_fd_ok (fun q hq => hb q (List.mem_cons_of_mem _ hq)) h
def sx_lb (bd : sx_B) : List (Nat × Int) → Option Int
  | [] => some 0
  | q :: t => match sx_fd bd q.1, sx_lb bd t with
    | some b, some k => some ((if 0 ≤ q.2 then q.2 * b.1 else q.2 * b.2) + k)
    | _, _ => none
theorem sx_lb_ok {r : Nat → Int} {bd : sx_B} (hb : sx_ob r bd) : ∀ (l : List (Nat × Int)) (k : Int), sx_lb bd l = some k → k ≤ sx_t r l
  | [], k, h => by cases h; exact Int.le_refl _
  | q :: t, k, h => by
    unfold sx_lb at h
    split at h
    · rename_i b k1 h1 h2
      cases h
      have i1 := sx_lb_ok hb t k1 h2
      obtain ⟨b1, b2⟩ := sx_fd_ok hb h1
      show _ ≤ q.2 * r q.1 + sx_t r t
      by_cases h0 : 0 ≤ q.2
      · rw [if_pos h0]
        have := Int.mul_le_mul_of_nonneg_left b1 h0
        omega
      · rw [if_neg h0]
        have := Int.mul_le_mul_of_nonpos_left (a := q.2) (by omega) b2
        omega
    · cases h
def sx_nn (bd : sx_B) (L : sx_L) : Bool := match sx_lb bd L.2 with
  | some k => decide (0 ≤ L.1 + k)
  | none => false
theorem sx_nn_ok {r : Nat → Int} {bd : sx_B} {L : sx_L} (hb : sx_ob r bd) (h : sx_nn bd L = true) : 0 ≤ sx_e r L := by
  unfold sx_nn at h
  split at h
  · rename_i k e
    have h1 := sx_lb_ok hb _ _ e
    have h2 := of_decide_eq_true h
    show 0 ≤ L.1 + sx_t r L.2
    omega
  · cases h
/-- it follows that the sum isn't below 0 -/
def sx_pr (bd : sx_B) (cs : List sx_L) (L : sx_L) : Bool := sx_nn bd L || (cs.any (fun C => sx_nn bd (sx_sub L C)) || cs.any (fun C => cs.any fun E => sx_nn bd (sx_sub (sx_sub L C) E)))
theorem sx_pr_ok {r : Nat → Int} {bd : sx_B} {cs : List sx_L} {L : sx_L} (hb : sx_ob r bd) (hc : sx_oc r cs) (h : sx_pr bd cs L = true) : 0 ≤ sx_e r L := by
  unfold sx_pr at h
  rw [Bool.or_eq_true, Bool.or_eq_true] at h
  rcases h with h | h | h
  · exact sx_nn_ok hb h
  · obtain ⟨C, hC, h⟩ := List.any_eq_true.mp h
    have h1 := sx_nn_ok hb h
    rw [sx_sub_e] at h1
    have := hc C hC
    omega
  · obtain ⟨C, hC, h⟩ := List.any_eq_true.mp h
    obtain ⟨E, hE, h⟩ := List.any_eq_true.mp h
    have h1 := sx_nn_ok hb h
    rw [sx_sub_e, sx_sub_e] at h1
    have := hc C hC
    have := hc E hE
    omega
/-- the bounds of one unknown out of a sum that isn't below 0 -/
def sx_tg (L : sx_L) (bd : sx_B) (q : Nat × Int) : sx_B := match sx_fd bd q.1, sx_lb bd (sx_sub (0, [q]) L).2 with
  | some b, some k => if q.2 = 1 then (let v := (sx_sub (0, [q]) L).1 + k; if b.1 < v then (q.1, v, b.2) :: bd else bd) else if q.2 = -1 then (let v := (sx_sub (0, [q]) L).1 + k; if - v < b.2 then (q.1, b.1, - v) :: bd else bd) else bd
  | _, _ => bd
theorem sx_tg_ok {r : Nat → Int} {bd : sx_B} {L : sx_L} (hb : sx_ob r bd) (hL : 0 ≤ sx_e r L) (q : Nat × Int) : sx_ob r (sx_tg L bd q) := by
  unfold sx_tg
  split
  · rename_i b k h1 h2
    obtain ⟨b1, b2⟩ := sx_fd_ok hb h1
    have i1 := sx_lb_ok hb _ _ h2
    have i2 : sx_e r (sx_sub (0, [q]) L) = q.2 * r q.1 - sx_e r L := by
      rw [sx_sub_e]
      show 0 + (q.2 * r q.1 + 0) - _ = _
      omega
    have i2 : (sx_sub (0, [q]) L).1 + sx_t r (sx_sub (0, [q]) L).2 = q.2 * r q.1 - sx_e r L := i2
    by_cases h3 : q.2 = 1
    · rw [if_pos h3]
      rw [h3] at i2
      dsimp only
      split
      · intro p hp
        rcases List.mem_cons.mp hp with e | hp
        · rw [e]; dsimp only; omega
        · exact hb p hp
      · exact hb
    · rw [if_neg h3]
      by_cases h4 : q.2 = -1
      · rw [if_pos h4]
        rw [h4] at i2
        dsimp only
        split
        · intro p hp
          rcases List.mem_cons.mp hp with e | hp
          · rw [e]; dsimp only; omega
          · exact hb p hp
        · exact hb
      · rw [if_neg h4]; exact hb
  · exact hb
/-- a sum that isn't below 0 comes to the others -/
def sx_sg (L : sx_L) : Bool := match L.2 with
  | [] => decide (0 ≤ L.1)
  | [q] => decide (q.2 = 1) || decide (q.2 = -1)
  | _ => false
def sx_as (L : sx_L) (N : sx_B × List sx_L) : sx_B × List sx_L := (L.2.foldl (sx_tg L) N.1, bif sx_sg L then N.2 else L :: N.2)
theorem sx_fl_ok {r : Nat → Int} {L : sx_L} (hL : 0 ≤ sx_e r L) : ∀ (l : List (Nat × Int)) (bd : sx_B), sx_ob r bd → sx_ob r (l.foldl (sx_tg L) bd)
  | [], _, hb => hb
  | q :: t, bd, hb => sx_fl_ok hL t _ (sx_tg_ok hb hL q)
theorem sx_as_ok {r : Nat → Int} {L : sx_L} {N : sx_B × List sx_L} (hb : sx_ob r N.1) (hc : sx_oc r N.2) (hL : 0 ≤ sx_e r L) : sx_ob r (sx_as L N).1 ∧ sx_oc r (sx_as L N).2 := by
  refine ⟨sx_fl_ok hL _ _ hb, fun C hC => ?_⟩
  have hC : C ∈ (bif sx_sg L then N.2 else L :: N.2) := hC
  cases e : sx_sg L with
  | true =>
    rw [e] at hC
    exact hc C hC
  | false =>
    rw [e] at hC
    rcases List.mem_cons.mp hC with e | h
    · rw [e]; exact hL
    · exact hc C h
/-- nothing can be so -/
def sx_dd (N : sx_B × List sx_L) : Bool := N.1.any (fun q => decide (q.2.2 < q.2.1)) || N.2.any (fun C => sx_nn N.1 (sx_sub (-1, []) C))
theorem sx_dd_ok {r : Nat → Int} {N : sx_B × List sx_L} (hb : sx_ob r N.1) (hc : sx_oc r N.2) (h : sx_dd N = true) : False := by
  unfold sx_dd at h
  rw [Bool.or_eq_true] at h
  rcases h with h | h
  · obtain ⟨q, hq, h⟩ := List.any_eq_true.mp h
    have h := of_decide_eq_true h
    have := hb q hq
    omega
  · obtain ⟨C, hC, h⟩ := List.any_eq_true.mp h
    have h1 := sx_nn_ok hb h
    rw [sx_sub_e, sx_c_e] at h1
    have := hc C hC
    omega
/-- unknowns put for unknowns -/
def sx_sl : List (Nat × sx_L) → Nat → sx_L
  | [], _ => (0, [])
  | q :: t, s => if q.1 = s then q.2 else sx_sl t s
def sx_st (z : List (Nat × sx_L)) : List (Nat × Int) → sx_L
  | [] => (0, [])
  | q :: t => sx_add (sx_mul q.2 (sx_sl z q.1)) (sx_st z t)
def sx_su (z : List (Nat × sx_L)) (L : sx_L) : sx_L := sx_add (L.1, []) (sx_st z L.2)
/-- what the unknowns are behind that -/
def sx_rz (r : Nat → Int) (z : List (Nat × sx_L)) (s : Nat) : Int := sx_e r (sx_sl z s)
theorem sx_st_e (r : Nat → Int) (z : List (Nat × sx_L)) : ∀ l, sx_e r (sx_st z l) = sx_t (sx_rz r z) l
  | [] => rfl
  | q :: t => by
    show sx_e r (sx_add (sx_mul q.2 (sx_sl z q.1)) (sx_st z t)) = q.2 * sx_rz r z q.1 + sx_t (sx_rz r z) t
    rw [sx_add_e, sx_mul_e, sx_st_e r z t]; rfl
theorem sx_su_e (r : Nat → Int) (z : List (Nat × sx_L)) (L : sx_L) : sx_e r (sx_su z L) = sx_e (sx_rz r z) L := by
  unfold sx_su
  rw [sx_add_e, sx_c_e, sx_st_e]; rfl
/-- the unknowns of it are below n -/
def sx_lw (n : Nat) (L : sx_L) : Bool := L.2.all (fun q => Nat.blt q.1 n)
theorem sx_t_up {r r' : Nat → Int} {n : Nat} (h : ∀ s, s < n → r' s = r s) : ∀ (l : List (Nat × Int)), l.all (fun q => Nat.blt q.1 n) = true → sx_t r' l = sx_t r l
  | [], _ => rfl
  | q :: t, hl => by
    rw [List.all_cons, Bool.and_eq_true] at hl
    show q.2 * r' q.1 + sx_t r' t = q.2 * r q.1 + sx_t r t
    rw [h q.1 (Nat.blt_eq.mp hl.1), sx_t_up h t hl.2]
theorem sx_e_up {r r' : Nat → Int} {n : Nat} (h : ∀ s, s < n → r' s = r s) {L : sx_L} (hl : sx_lw n L = true) : sx_e r' L = sx_e r L := by
  show L.1 + sx_t r' L.2 = L.1 + sx_t r L.2
  rw [sx_t_up h _ hl]
