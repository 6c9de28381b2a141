/-! ghosts: what rows say beyond their numbers -/
/-- how many values lie on the stack behind n signs from b on; none: it can't be reckoned -/
def nt_rp (a : Nat → Int32) (b : Nat) : Nat → Option Nat
  | 0 => some 0
  | n + 1 => match nt_rp a b n with
    | none => none
    | some d => if a (b + n) &&& 15 = 0 then (if d < 60 then some (d + 1) else none) else if a (b + n) &&& 15 = 1 then (if d < 60 ∧ 0 ≤ (a (b + n) >>> 4).toInt ∧ (a (b + n) >>> 4).toInt ≤ 9 then some (d + 1) else none) else if a (b + n) &&& 15 = 11 then (if 1 ≤ d then some d else none) else (if 2 ≤ d then some (d - 1) else none)
theorem nt_rp_eq {a a' : Nat → Int32} {b : Nat} : ∀ n, (∀ j, j < b + n → a j = a' j) → nt_rp a b n = nt_rp a' b n
  | 0, _ => rfl
  | n + 1, h => by
    unfold nt_rp
    rw [nt_rp_eq n (fun j hj => h j (by omega)), h (b + n) (by omega)]
/-- what lies open: how many that join two (12, 13), how many brackets (91); none: something else -/
def nt_ob (a : Nat → Int32) : Nat → Option (Nat × Nat)
  | 0 => some (0, 0)
  | n + 1 => match nt_ob a n with
    | none => none
    | some q => if a n = 12 ∨ a n = 13 then some (q.1 + 1, q.2) else if a n = 11 then some q else if a n = 91 then some (q.1, q.2 + 1) else none
theorem nt_ob_eq {a a' : Nat → Int32} : ∀ n, (∀ j, j < n → a j = a' j) → nt_ob a n = nt_ob a' n
  | 0, _ => rfl
  | n + 1, h => by
    unfold nt_ob
    rw [nt_ob_eq n (fun j hj => h j (by omega)), h n (by omega)]
/-- a clause can be reckoned; its signs end at m -/
def nt_ck (p : Nat → Nat → Int32) (t c : Nat) (m : Int) : Prop := (0 ≤ (p 2 (48 * t + 4 * c)).toInt ∧ (p 2 (48 * t + 4 * c)).toInt ≤ (p 2 (48 * t + 4 * c + 1)).toInt ∧ (p 2 (48 * t + 4 * c + 1)).toInt ≤ m ∧ nt_rp (p 1) (400 * t + (p 2 (48 * t + 4 * c)).toInt.toNat) ((p 2 (48 * t + 4 * c + 1)).toInt - (p 2 (48 * t + 4 * c)).toInt).toNat = some 1) ∧ ((p 2 (48 * t + 4 * c + 2)).toInt < 0 ∨ (p 2 (48 * t + 4 * c + 2)).toInt ≤ (p 2 (48 * t + 4 * c + 3)).toInt ∧ (p 2 (48 * t + 4 * c + 3)).toInt ≤ m ∧ nt_rp (p 1) (400 * t + (p 2 (48 * t + 4 * c + 2)).toInt.toNat) ((p 2 (48 * t + 4 * c + 3)).toInt - (p 2 (48 * t + 4 * c + 2)).toInt).toNat = some 1)
/-- all clauses of all rules; those of the text x end at m -/
def nt_rk (p : Nat → Nat → Int32) (x : Nat) (m : Int) : Prop := ∀ (t c : Nat), t < 6 → c < 12 → (c : Int) < (p 3 t).toInt → nt_ck p t c (if t = x then m else 400)
/-- a sum was read from z / 401 on, as far as z % 401, and can be reckoned -/
def nt_pd (p : Nat → Nat → Int32) (t l z : Nat) : Prop := z % 401 ≤ l ∧ nt_rp (p 1) (400 * t + z / 401) (z % 401 - z / 401) = some 1
/-- what ghost 0 says at an index: text, end, and what is pending (0: nothing) -/
def nt_gk (p : Nat → Nat → Int32) (i : Int) : Prop := i = 10000 ∧ nt_rk p 6 400 ∨ 20000 ≤ i ∧ i % 1000 ≤ 400 ∧ nt_rk p (((i - 20000) / 1000) % 10).toNat (i % 1000) ∧ ((i - 20000) / 10000 = 0 ∨ nt_pd p (((i - 20000) / 1000) % 10).toNat (i % 1000).toNat ((i - 20000) / 10000 - 1).toNat)
noncomputable def nt_ghost (g : Nat) (p : Nat → Nat → Int32) (i : Int) : Int :=
  if g = 0 then @ite _ (nt_gk p i) (Classical.propDecidable _) 1 0
  else if g = 1 then (if 0 ≤ i then (match nt_rp (p 1) (i / 10000).toNat (i % 10000 - i / 10000).toNat with | some d => (d : Int) | none => -1) else 0)
  else if g = 2 then (match nt_ob (p 9) i.toNat with | some q => (q.1 : Int) | none => -1)
  else if g = 4 then (match nt_ob (p 9) i.toNat with | some q => (q.2 : Int) | none => -1)
  else i
def sx_GG0 : Nat → (Nat → Nat → Int32) → Int → Int := fun _ _ _ => 0
noncomputable def sx_GG (T : List (List (Nat × List (Int × Int))) × List (List Nat)) : Nat → (Nat → Nat → Int32) → Int → Int := match T.2 with
  | [] => sx_GG0
  | _ => nt_ghost
theorem nt_ck_eq {p q : Nat → Nat → Int32} {t c : Nat} {m : Int} (ht : t < 6) (hc : c < 12) (hm : m ≤ 400) (h1 : ∀ j, j < 2400 → p 1 j = q 1 j) (h2 : ∀ j, j < 288 → p 2 j = q 2 j) : nt_ck p t c m → nt_ck q t c m := by
  unfold nt_ck
  rw [h2 (48 * t + 4 * c) (by omega), h2 (48 * t + 4 * c + 1) (by omega), h2 (48 * t + 4 * c + 2) (by omega), h2 (48 * t + 4 * c + 3) (by omega)]
  rintro ⟨⟨a1, a2, a3, a4⟩, a5⟩
  refine ⟨⟨a1, a2, a3, ?_⟩, ?_⟩
  · rw [← nt_rp_eq _ (fun j hj => h1 j (by omega))]
    exact a4
  · rcases a5 with a5 | ⟨b1, b2, b3⟩
    · exact Or.inl a5
    · by_cases hn : (q 2 (48 * t + 4 * c + 2)).toInt < 0
      · exact Or.inl hn
      · refine Or.inr ⟨b1, b2, ?_⟩
        rw [← nt_rp_eq _ (fun j hj => h1 j (by omega))]
        exact b3
theorem nt_rk_eq {p q : Nat → Nat → Int32} {x : Nat} {m : Int} (hm : m ≤ 400) (h1 : ∀ j, j < 2400 → p 1 j = q 1 j) (h2 : ∀ j, j < 288 → p 2 j = q 2 j) (h3 : ∀ j, j < 6 → p 3 j = q 3 j) (h : nt_rk p x m) : nt_rk q x m := by
  intro t c ht hc hk
  rw [← h3 t ht] at hk
  refine nt_ck_eq ht hc ?_ h1 h2 (h t c ht hc hk)
  split <;> omega
theorem nt_pd_eq {p q : Nat → Nat → Int32} {t l z : Nat} (ht : t < 10) (hl : l ≤ 400) (h1 : ∀ j, j < 20000 → p 1 j = q 1 j) (h : nt_pd p t l z) : nt_pd q t l z := by
  obtain ⟨a, b⟩ := h
  refine ⟨a, ?_⟩
  by_cases hz : z / 401 ≤ z % 401
  · rw [← nt_rp_eq _ (fun j hj => h1 j (by omega))]
    exact b
  · rw [show z % 401 - z / 401 = 0 from by omega] at b ⊢
    exact b
theorem nt_gk_eq {p q : Nat → Nat → Int32} {i : Int} (h1 : ∀ j : Nat, (j : Int) < i → p 1 j = q 1 j) (h2 : ∀ j : Nat, (j : Int) < i → p 2 j = q 2 j) (h3 : ∀ j : Nat, (j : Int) < i → p 3 j = q 3 j) (h : nt_gk p i) : nt_gk q i := by
  rcases h with ⟨k1, k2⟩ | ⟨k1, k3, k2, k4⟩
  · exact Or.inl ⟨k1, nt_rk_eq (by omega) (fun j hj => h1 j (by omega)) (fun j hj => h2 j (by omega)) (fun j hj => h3 j (by omega)) k2⟩
  · refine Or.inr ⟨k1, k3, nt_rk_eq (by omega) (fun j hj => h1 j (by omega)) (fun j hj => h2 j (by omega)) (fun j hj => h3 j (by omega)) k2, ?_⟩
    rcases k4 with k4 | k4
    · exact Or.inl k4
    · exact Or.inr (nt_pd_eq (by omega) (by omega) (fun j hj => h1 j (by omega)) k4)
/-- a ghost hangs on what lies ahead alone -/
theorem nt_ghost_gh {E : sx_E} {F : sx_F} (hE : E.1.2 = [[1, 2, 3], [1], [9], [1], [9], []]) (hF : F.2.2.2 = nt_ghost) : sx_gh E F := by
  intro g p q i h
  rw [hE] at h
  rw [hF]
  unfold nt_ghost
  by_cases g0 : g = 0
  · rw [if_pos g0, if_pos g0]
    rw [g0] at h
    have h1 : ∀ j : Nat, (j : Int) < i → p 1 j = q 1 j := fun j hj => h 1 (by decide) j hj
    have h2 : ∀ j : Nat, (j : Int) < i → p 2 j = q 2 j := fun j hj => h 2 (by decide) j hj
    have h3 : ∀ j : Nat, (j : Int) < i → p 3 j = q 3 j := fun j hj => h 3 (by decide) j hj
    have key : nt_gk p i = nt_gk q i := propext ⟨nt_gk_eq h1 h2 h3, nt_gk_eq (fun j hj => (h1 j hj).symm) (fun j hj => (h2 j hj).symm) (fun j hj => (h3 j hj).symm)⟩
    exact congrArg (fun P : Prop => @ite Int P (Classical.propDecidable P) 1 0) key
  · rw [if_neg g0, if_neg g0]
    by_cases g1 : g = 1
    · rw [if_pos g1, if_pos g1]
      rw [g1] at h
      have h1 : ∀ j : Nat, (j : Int) < i → p 1 j = q 1 j := fun j hj => h 1 (by decide) j hj
      by_cases i0 : 0 ≤ i
      · rw [if_pos i0, if_pos i0]
        by_cases hn : (i % 10000 - i / 10000).toNat = 0
        · rw [hn]; rfl
        · rw [nt_rp_eq _ (fun j hj => h1 j (by omega))]
      · rw [if_neg i0, if_neg i0]
    · rw [if_neg g1, if_neg g1]
      by_cases g2 : g = 2
      · rw [if_pos g2, if_pos g2]
        rw [g2] at h
        have h9 : ∀ j : Nat, (j : Int) < i → p 9 j = q 9 j := fun j hj => h 9 (by decide) j hj
        rw [nt_ob_eq i.toNat (fun j hj => h9 j (by omega))]
      · rw [if_neg g2, if_neg g2]
        by_cases g4 : g = 4
        · rw [if_pos g4, if_pos g4]
          rw [g4] at h
          have h9 : ∀ j : Nat, (j : Int) < i → p 9 j = q 9 j := fun j hj => h 9 (by decide) j hj
          rw [nt_ob_eq i.toNat (fun j hj => h9 j (by omega))]
        · rw [if_neg g4, if_neg g4]
