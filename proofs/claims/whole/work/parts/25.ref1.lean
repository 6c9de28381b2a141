/-! the reference: its shape, its plain methods -/
def rf_sh (B : Nat) (M : nt_M) : Prop := B + 15 < nt_n M ∧ nt_n M ≤ nt_sp ∧ nt_k M B = 11 ∧ nt_k M (B + 1) = 12 ∧ nt_l M (B + 1) = 400 ∧ nt_R M B 0 = some (B + 1) ∧ nt_k M (B + 2) = 13 ∧ nt_l M (B + 2) = 2400 ∧ nt_R M B 3 = some (B + 2) ∧ nt_k M (B + 3) = 13 ∧ nt_l M (B + 3) = 7 ∧ nt_R M B 4 = some (B + 3) ∧ nt_k M (B + 4) = 13 ∧ nt_l M (B + 4) = 288 ∧ nt_R M B 5 = some (B + 4) ∧ nt_k M (B + 5) = 13 ∧ nt_l M (B + 5) = 6 ∧ nt_R M B 6 = some (B + 5) ∧ nt_k M (B + 6) = 13 ∧ nt_l M (B + 6) = 24 ∧ nt_R M B 12 = some (B + 6) ∧ nt_k M (B + 7) = 13 ∧ nt_l M (B + 7) = 72 ∧ nt_R M B 13 = some (B + 7) ∧ nt_k M (B + 8) = 13 ∧ nt_l M (B + 8) = 32 ∧ nt_R M B 14 = some (B + 8) ∧ nt_k M (B + 9) = 13 ∧ nt_l M (B + 9) = 400 ∧ nt_R M B 22 = some (B + 9) ∧ nt_k M (B + 10) = 14 ∧ nt_l M (B + 10) = 64 ∧ nt_R M B 24 = some (B + 10) ∧ nt_k M (B + 11) = 14 ∧ nt_l M (B + 11) = 10 ∧ nt_R M B 26 = some (B + 11) ∧ nt_k M (B + 12) = 13 ∧ nt_l M (B + 12) = 212 ∧ nt_R M B 27 = some (B + 12) ∧ nt_k M (B + 13) = 13 ∧ nt_l M (B + 13) = 212 ∧ nt_R M B 28 = some (B + 13) ∧ nt_k M (B + 14) = 13 ∧ nt_l M (B + 14) = 848 ∧ nt_R M B 29 = some (B + 14) ∧ nt_k M (B + 15) = 15 ∧ nt_l M (B + 15) = 4 ∧ nt_R M B 30 = some (B + 15)
theorem rf_n {B : Nat} {M : nt_M} (h : rf_sh B M) {k : Nat} (hk : k ≤ 15) : B + k < nt_n M := by have := h.1; omega
theorem rf_b {B : Nat} {M : nt_M} (h : rf_sh B M) : B < nt_n M := by have := h.1; omega
theorem rf_s {B : Nat} {M : nt_M} (h : rf_sh B M) : nt_n M ≤ nt_sp := h.2.1
theorem rf_kb {B : Nat} {M : nt_M} (h : rf_sh B M) : nt_k M B = 11 := h.2.2.1
theorem rf_k1 {B : Nat} {M : nt_M} (h : rf_sh B M) : nt_k M (B + 1) = 12 := h.2.2.2.1
theorem rf_l1 {B : Nat} {M : nt_M} (h : rf_sh B M) : nt_l M (B + 1) = 400 := h.2.2.2.2.1
theorem rf_r1 {B : Nat} {M : nt_M} (h : rf_sh B M) : nt_R M B 0 = some (B + 1) := h.2.2.2.2.2.1
theorem rf_k2 {B : Nat} {M : nt_M} (h : rf_sh B M) : nt_k M (B + 2) = 13 := h.2.2.2.2.2.2.1
theorem rf_l2 {B : Nat} {M : nt_M} (h : rf_sh B M) : nt_l M (B + 2) = 2400 := h.2.2.2.2.2.2.2.1
theorem rf_r2 {B : Nat} {M : nt_M} (h : rf_sh B M) : nt_R M B 3 = some (B + 2) := h.2.2.2.2.2.2.2.2.1
theorem rf_k3 {B : Nat} {M : nt_M} (h : rf_sh B M) : nt_k M (B + 3) = 13 := h.2.2.2.2.2.2.2.2.2.1
theorem rf_l3 {B : Nat} {M : nt_M} (h : rf_sh B M) : nt_l M (B + 3) = 7 := h.2.2.2.2.2.2.2.2.2.2.1
theorem rf_r3 {B : Nat} {M : nt_M} (h : rf_sh B M) : nt_R M B 4 = some (B + 3) := h.2.2.2.2.2.2.2.2.2.2.2.1
theorem rf_k4 {B : Nat} {M : nt_M} (h : rf_sh B M) : nt_k M (B + 4) = 13 := h.2.2.2.2.2.2.2.2.2.2.2.2.1
theorem rf_l4 {B : Nat} {M : nt_M} (h : rf_sh B M) : nt_l M (B + 4) = 288 := h.2.2.2.2.2.2.2.2.2.2.2.2.2.1
theorem rf_r4 {B : Nat} {M : nt_M} (h : rf_sh B M) : nt_R M B 5 = some (B + 4) := h.2.2.2.2.2.2.2.2.2.2.2.2.2.2.1
theorem rf_k5 {B : Nat} {M : nt_M} (h : rf_sh B M) : nt_k M (B + 5) = 13 := h.2.2.2.2.2.2.2.2.2.2.2.2.2.2.2.1
theorem rf_l5 {B : Nat} {M : nt_M} (h : rf_sh B M) : nt_l M (B + 5) = 6 := h.2.2.2.2.2.2.2.2.2.2.2.2.2.2.2.2.1
theorem rf_r5 {B : Nat} {M : nt_M} (h : rf_sh B M) : nt_R M B 6 = some (B + 5) := h.2.2.2.2.2.2.2.2.2.2.2.2.2.2.2.2.2.1
theorem rf_k6 {B : Nat} {M : nt_M} (h : rf_sh B M) : nt_k M (B + 6) = 13 := h.2.2.2.2.2.2.2.2.2.2.2.2.2.2.2.2.2.2.1
theorem rf_l6 {B : Nat} {M : nt_M} (h : rf_sh B M) : nt_l M (B + 6) = 24 := h.2.2.2.2.2.2.2.2.2.2.2.2.2.2.2.2.2.2.2.1
theorem rf_r6 {B : Nat} {M : nt_M} (h : rf_sh B M) : nt_R M B 12 = some (B + 6) := h.2.2.2.2.2.2.2.2.2.2.2.2.2.2.2.2.2.2.2.2.1
theorem rf_k7 {B : Nat} {M : nt_M} (h : rf_sh B M) : nt_k M (B + 7) = 13 := h.2.2.2.2.2.2.2.2.2.2.2.2.2.2.2.2.2.2.2.2.2.1
theorem rf_l7 {B : Nat} {M : nt_M} (h : rf_sh B M) : nt_l M (B + 7) = 72 := h.2.2.2.2.2.2.2.2.2.2.2.2.2.2.2.2.2.2.2.2.2.2.1
theorem rf_r7 {B : Nat} {M : nt_M} (h : rf_sh B M) : nt_R M B 13 = some (B + 7) := h.2.2.2.2.2.2.2.2.2.2.2.2.2.2.2.2.2.2.2.2.2.2.2.1
theorem rf_k8 {B : Nat} {M : nt_M} (h : rf_sh B M) : nt_k M (B + 8) = 13 := h.2.2.2.2.2.2.2.2.2.2.2.2.2.2.2.2.2.2.2.2.2.2.2.2.1
theorem rf_l8 {B : Nat} {M : nt_M} (h : rf_sh B M) : nt_l M (B + 8) = 32 := h.2.2.2.2.2.2.2.2.2.2.2.2.2.2.2.2.2.2.2.2.2.2.2.2.2.1
theorem rf_r8 {B : Nat} {M : nt_M} (h : rf_sh B M) : nt_R M B 14 = some (B + 8) := h.2.2.2.2.2.2.2.2.2.2.2.2.2.2.2.2.2.2.2.2.2.2.2.2.2.2.1
theorem rf_k9 {B : Nat} {M : nt_M} (h : rf_sh B M) : nt_k M (B + 9) = 13 := h.2.2.2.2.2.2.2.2.2.2.2.2.2.2.2.2.2.2.2.2.2.2.2.2.2.2.2.1
theorem rf_l9 {B : Nat} {M : nt_M} (h : rf_sh B M) : nt_l M (B + 9) = 400 := h.2.2.2.2.2.2.2.2.2.2.2.2.2.2.2.2.2.2.2.2.2.2.2.2.2.2.2.2.1
theorem rf_r9 {B : Nat} {M : nt_M} (h : rf_sh B M) : nt_R M B 22 = some (B + 9) := h.2.2.2.2.2.2.2.2.2.2.2.2.2.2.2.2.2.2.2.2.2.2.2.2.2.2.2.2.2.1
theorem rf_k10 {B : Nat} {M : nt_M} (h : rf_sh B M) : nt_k M (B + 10) = 14 := h.2.2.2.2.2.2.2.2.2.2.2.2.2.2.2.2.2.2.2.2.2.2.2.2.2.2.2.2.2.2.1
theorem rf_l10 {B : Nat} {M : nt_M} (h : rf_sh B M) : nt_l M (B + 10) = 64 := h.2.2.2.2.2.2.2.2.2.2.2.2.2.2.2.2.2.2.2.2.2.2.2.2.2.2.2.2.2.2.2.1
theorem rf_r10 {B : Nat} {M : nt_M} (h : rf_sh B M) : nt_R M B 24 = some (B + 10) := h.2.2.2.2.2.2.2.2.2.2.2.2.2.2.2.2.2.2.2.2.2.2.2.2.2.2.2.2.2.2.2.2.1
theorem rf_k11 {B : Nat} {M : nt_M} (h : rf_sh B M) : nt_k M (B + 11) = 14 := h.2.2.2.2.2.2.2.2.2.2.2.2.2.2.2.2.2.2.2.2.2.2.2.2.2.2.2.2.2.2.2.2.2.1
theorem rf_l11 {B : Nat} {M : nt_M} (h : rf_sh B M) : nt_l M (B + 11) = 10 := h.2.2.2.2.2.2.2.2.2.2.2.2.2.2.2.2.2.2.2.2.2.2.2.2.2.2.2.2.2.2.2.2.2.2.1
theorem rf_r11 {B : Nat} {M : nt_M} (h : rf_sh B M) : nt_R M B 26 = some (B + 11) := h.2.2.2.2.2.2.2.2.2.2.2.2.2.2.2.2.2.2.2.2.2.2.2.2.2.2.2.2.2.2.2.2.2.2.2.1
theorem rf_k12 {B : Nat} {M : nt_M} (h : rf_sh B M) : nt_k M (B + 12) = 13 := h.2.2.2.2.2.2.2.2.2.2.2.2.2.2.2.2.2.2.2.2.2.2.2.2.2.2.2.2.2.2.2.2.2.2.2.2.1
theorem rf_l12 {B : Nat} {M : nt_M} (h : rf_sh B M) : nt_l M (B + 12) = 212 := h.2.2.2.2.2.2.2.2.2.2.2.2.2.2.2.2.2.2.2.2.2.2.2.2.2.2.2.2.2.2.2.2.2.2.2.2.2.1
theorem rf_r12 {B : Nat} {M : nt_M} (h : rf_sh B M) : nt_R M B 27 = some (B + 12) := h.2.2.2.2.2.2.2.2.2.2.2.2.2.2.2.2.2.2.2.2.2.2.2.2.2.2.2.2.2.2.2.2.2.2.2.2.2.2.1
theorem rf_k13 {B : Nat} {M : nt_M} (h : rf_sh B M) : nt_k M (B + 13) = 13 := h.2.2.2.2.2.2.2.2.2.2.2.2.2.2.2.2.2.2.2.2.2.2.2.2.2.2.2.2.2.2.2.2.2.2.2.2.2.2.2.1
theorem rf_l13 {B : Nat} {M : nt_M} (h : rf_sh B M) : nt_l M (B + 13) = 212 := h.2.2.2.2.2.2.2.2.2.2.2.2.2.2.2.2.2.2.2.2.2.2.2.2.2.2.2.2.2.2.2.2.2.2.2.2.2.2.2.2.1
theorem rf_r13 {B : Nat} {M : nt_M} (h : rf_sh B M) : nt_R M B 28 = some (B + 13) := h.2.2.2.2.2.2.2.2.2.2.2.2.2.2.2.2.2.2.2.2.2.2.2.2.2.2.2.2.2.2.2.2.2.2.2.2.2.2.2.2.2.1
theorem rf_k14 {B : Nat} {M : nt_M} (h : rf_sh B M) : nt_k M (B + 14) = 13 := h.2.2.2.2.2.2.2.2.2.2.2.2.2.2.2.2.2.2.2.2.2.2.2.2.2.2.2.2.2.2.2.2.2.2.2.2.2.2.2.2.2.2.1
theorem rf_l14 {B : Nat} {M : nt_M} (h : rf_sh B M) : nt_l M (B + 14) = 848 := h.2.2.2.2.2.2.2.2.2.2.2.2.2.2.2.2.2.2.2.2.2.2.2.2.2.2.2.2.2.2.2.2.2.2.2.2.2.2.2.2.2.2.2.1
theorem rf_r14 {B : Nat} {M : nt_M} (h : rf_sh B M) : nt_R M B 29 = some (B + 14) := h.2.2.2.2.2.2.2.2.2.2.2.2.2.2.2.2.2.2.2.2.2.2.2.2.2.2.2.2.2.2.2.2.2.2.2.2.2.2.2.2.2.2.2.2.1
theorem rf_k15 {B : Nat} {M : nt_M} (h : rf_sh B M) : nt_k M (B + 15) = 15 := h.2.2.2.2.2.2.2.2.2.2.2.2.2.2.2.2.2.2.2.2.2.2.2.2.2.2.2.2.2.2.2.2.2.2.2.2.2.2.2.2.2.2.2.2.2.1
theorem rf_l15 {B : Nat} {M : nt_M} (h : rf_sh B M) : nt_l M (B + 15) = 4 := h.2.2.2.2.2.2.2.2.2.2.2.2.2.2.2.2.2.2.2.2.2.2.2.2.2.2.2.2.2.2.2.2.2.2.2.2.2.2.2.2.2.2.2.2.2.2.1
theorem rf_r15 {B : Nat} {M : nt_M} (h : rf_sh B M) : nt_R M B 30 = some (B + 15) := h.2.2.2.2.2.2.2.2.2.2.2.2.2.2.2.2.2.2.2.2.2.2.2.2.2.2.2.2.2.2.2.2.2.2.2.2.2.2.2.2.2.2.2.2.2.2.2
def nt_b (c : Bool) : Int32 := bif c then 1 else 0
theorem nt_bz (c : Bool) : nt_b c = 0 ∨ nt_b c = 1 := by cases c <;> simp [nt_b]
theorem nt_b0 {c : Bool} : nt_b c = 0 ↔ c = false := by cases c <;> simp [nt_b]
theorem nt_rn_ifb {X : nt_X} {d mi : Nat} {c : Bool} {a b : Nat} {r : nt_V × List Value × nt_M} {o : Option Value × nt_M} (ha : c = false → nt_rn X d mi (a, r) o) (hb : c = true → nt_rn X d mi (b, r) o) : nt_rn X d mi (if nt_b c = 0 then a else b, r) o := by
  cases c
  · exact ha rfl
  · exact hb rfl
theorem nt_rn_t {X : nt_X} {d mi : Nat} {p : Prop} [Decidable p] {a b : Nat} {r : nt_V × List Value × nt_M} {o : Option Value × nt_M} (h : p) (k : nt_rn X d mi (a, r) o) : nt_rn X d mi (if p then a else b, r) o := by rw [if_pos h]; exact k
theorem nt_rn_f {X : nt_X} {d mi : Nat} {p : Prop} [Decidable p] {a b : Nat} {r : nt_V × List Value × nt_M} {o : Option Value × nt_M} (h : ¬ p) (k : nt_rn X d mi (b, r) o) : nt_rn X d mi (if p then a else b, r) o := by rw [if_neg h]; exact k
theorem nt_eqi {l : nt_V} {j : Nat} {x y : Int32} (h1 : nt_lk l j = some (.int x)) (h : x = y) : nt_lk l j = some (.int y) := by rw [h1, h]
theorem nt_loopI {X : nt_X} {d mi : Nat} {o : Option Value × nt_M} (C : Nat → nt_C) (I : Nat → Prop) (N : Nat) (hend : I N → nt_rn X d mi (C N) o) (hstep : ∀ i, i < N → I i → (I (i + 1) → nt_rn X d mi (C (i + 1)) o) → nt_rn X d mi (C i) o) : ∀ k i, i + k = N → I i → nt_rn X d mi (C i) o
  | 0, i, h, hi => by
    have e : i = N := by omega
    rw [e] at hi ⊢; exact hend hi
  | k + 1, i, h, hi => hstep i (by omega) hi (nt_loopI C I N hend hstep k (i + 1) (by omega))
/-- a sum over a row -/
def nt_sm (f : Nat → Int32) : Nat → Int32
  | 0 => 0
  | n + 1 => nt_sm f n + f n
def nt_sd (a : Int32) (f : Nat → Int32) : Nat → Int32
  | 0 => a
  | n + 1 => nt_sd a f n - f n
/-- the first at or behind i of which it holds, or N -/
def nt_ff (p : Nat → Bool) (N i : Nat) : Nat := (List.range' i (N - i)).foldr (fun j r => bif p j then j else r) N
theorem nt_ff_end (p : Nat → Bool) (N : Nat) : nt_ff p N N = N := by
  unfold nt_ff
  rw [Nat.sub_self]
  rfl
theorem nt_ff_step (p : Nat → Bool) {N i : Nat} (h : i < N) : nt_ff p N i = bif p i then i else nt_ff p N (i + 1) := by
  unfold nt_ff
  rw [show N - i = (N - (i + 1)) + 1 by omega, List.range'_succ, List.foldr_cons]
theorem nt_ff_at {p : Nat → Bool} {N i : Nat} (h : i < N) (hp : p i = true) : nt_ff p N i = i := by rw [nt_ff_step p h, hp]; rfl
def sp_wf (K N P V : Nat) (S : Nat → Int32) : Prop := S 0 = nI K ∧ K ≤ 4 ∧ S 1 = nI N ∧ N ≤ 6 ∧ S 2 = nI P ∧ P ≤ 24 ∧ S 3 = nI V ∧ V ≤ 8 ∧ (∀ p, p < P → (∃ k, k < K ∧ S (52 + 5 * p) = nI k) ∧ (∃ q, q < N ∧ S (52 + 5 * p + 2) = nI q) ∧ (S (52 + 5 * p + 3) = -1 ∨ ∃ q, q < N ∧ S (52 + 5 * p + 3) = nI q)) ∧ ∀ v, v < V → (∃ q, q < N ∧ S (172 + 5 * v) = nI q)
def sp_sd (S : Nat → Int32) (p : Nat) : Bool := !decide (S (52 + 5 * p + 1) ≤ 0) && decide (S (52 + 5 * p + 4) = 0)
def sp_in (S : Nat → Int32) (p : Nat) (s : Int32) : Bool := sp_sd S p && decide (S (52 + 5 * p + 3) = s)
def sp_si (S : Nat → Int32) (s : Int32) : Nat → Int32 := nt_sm (fun p => nt_b (sp_in S p s))
def sp_as (S : Nat → Int32) (s : Nat) : Bool := decide (S (10 + 7 * s + 4) = 0)
theorem rm_isOf (X : nt_X) (d : Nat) (M : nt_M) (s : Int32) (k : Int32)  : nt_ev X (d) 209 [.int s, .int k] M (some (.int (nt_b (decide ((s >>> (k &&& 31)) &&& 1 = 1)))), M) := by
  show nt_rn X _ 209 (0, [(0, .int s), (1, .int k)], [], M) _
  refine nt_rn_b 7 (c' := (if ((s >>> (k &&& 31)) &&& 1) = 1 then 9 else 13, [(0, .int s), (1, .int k)], [], M)) rfl ?_
  refine nt_rn_if (fun h1 => ?_) (fun h1 => ?_)
  · refine nt_rn_b 2 (c' := (14, [(0, .int s), (1, .int k)], [.int 1], M)) rfl ?_
    exact nt_rn_rz (e := (14, .ireturn, 0, 0)) rfl rfl rfl (Or.inr rfl) (by simp [nt_b, *]) (rfl)
  · refine nt_rn_b 1 (c' := (14, [(0, .int s), (1, .int k)], [.int 0], M)) rfl ?_
    exact nt_rn_rz (e := (14, .ireturn, 0, 0)) rfl rfl rfl (Or.inl rfl) (by simp [nt_b, *]) (rfl)
theorem rm_in (X : nt_X) (d : Nat) (M : nt_M) (v : Int64) (a : Int64) (b : Int64)  : nt_ev X (d) 145 [.long v, .long a, .long b] M (some (.int (nt_b (!decide (lg_cmp v a < 0) && !decide (0 < lg_cmp v b)))), M) := by
  show nt_rn X _ 145 (0, [(0, .long v), (2, .long a), (4, .long b)], [], M) _
  refine nt_rn_b 4 (c' := (if (lg_cmp v a) < 0 then 17 else 6, [(0, .long v), (2, .long a), (4, .long b)], [], M)) rfl ?_
  refine nt_rn_if (fun h1 => ?_) (fun h1 => ?_)
  · refine nt_rn_b 1 (c' := (18, [(0, .long v), (2, .long a), (4, .long b)], [.int 0], M)) rfl ?_
    exact nt_rn_rz (e := (18, .ireturn, 0, 0)) rfl rfl rfl (Or.inl rfl) (by simp [nt_b, *]) (rfl)
  · refine nt_rn_b 4 (c' := (if 0 < (lg_cmp v b) then 17 else 13, [(0, .long v), (2, .long a), (4, .long b)], [], M)) rfl ?_
    refine nt_rn_if (fun h2 => ?_) (fun h2 => ?_)
    · refine nt_rn_b 1 (c' := (18, [(0, .long v), (2, .long a), (4, .long b)], [.int 0], M)) rfl ?_
      exact nt_rn_rz (e := (18, .ireturn, 0, 0)) rfl rfl rfl (Or.inl rfl) (by simp [nt_b, *]) (rfl)
    · refine nt_rn_b 2 (c' := (18, [(0, .long v), (2, .long a), (4, .long b)], [.int 1], M)) rfl ?_
      exact nt_rn_rz (e := (18, .ireturn, 0, 0)) rfl rfl rfl (Or.inr rfl) (by simp [nt_b, *]) (rfl)
theorem rm_shipOf (X : nt_X) (d : Nat) {B : Nat} {M : nt_M} (hM : rf_sh B M) (x : Int32) {p : Nat} (hx : x = nI p) (hp : p < 6) (y : Int32) {w : Nat} (hy : y = nI w) (hw : w < 7)  : nt_ev X (d) 169 [.ref B, .int x, .int y] M (some (.int ((nt_I M (B + 12)) (10 + 7 * p + w))), M) := by
  subst hx
  subst hy
  show nt_rn X _ 169 (0, [(0, .ref B), (1, .int (nI p)), (2, .int (nI w))], [], M) _
  refine nt_rn_b 1 (c' := (1, [(0, .ref B), (1, .int (nI p)), (2, .int (nI w))], [.ref B], M)) rfl ?_
  refine nt_rn_s (e := (1, .getfield 45, 1127, 0)) rfl rfl (nt_x_get (c := 11) (v := .ref (B + 12)) (rf_b hM) (rf_kb hM) rfl (nt_gfR rfl (rf_r12 hM))) ?_
  refine nt_rn_b 7 (c' := (13, [(0, .ref B), (1, .int (nI p)), (2, .int (nI w))], [.int ((10 + (7 * (nI p))) + (nI w)), .ref (B + 12)], M)) rfl ?_
  refine nt_rn_s (e := (13, .iaload, 0, 0)) rfl rfl (nt_x_iald (i := (10 + 7 * p + w)) (rf_n hM (k := 12) (by omega)) (rf_k12 hM) (rf_s hM) (by rw [show (10 : Int32) = nI 10 from rfl, show (7 : Int32) = nI 7 from rfl, pk_mul, nI_add, nI_add]) (by rw [show nt_l _ (B + 12) = _ from rf_l12 hM]; omega) (by show nt_l _ _ < 2147483648; rw [show nt_l _ (B + 12) = _ from rf_l12 hM]; omega)) ?_
  exact nt_rn_ri (e := (14, .ireturn, 0, 0)) rfl rfl rfl (by simp [nt_b, *]) (rfl)
theorem rm_plankOf (X : nt_X) (d : Nat) {B : Nat} {M : nt_M} (hM : rf_sh B M) (x : Int32) {p : Nat} (hx : x = nI p) (hp : p < 24) (y : Int32) {w : Nat} (hy : y = nI w) (hw : w < 5)  : nt_ev X (d) 173 [.ref B, .int x, .int y] M (some (.int ((nt_I M (B + 12)) (52 + 5 * p + w))), M) := by
  subst hx
  subst hy
  show nt_rn X _ 173 (0, [(0, .ref B), (1, .int (nI p)), (2, .int (nI w))], [], M) _
  refine nt_rn_b 1 (c' := (1, [(0, .ref B), (1, .int (nI p)), (2, .int (nI w))], [.ref B], M)) rfl ?_
  refine nt_rn_s (e := (1, .getfield 45, 1127, 0)) rfl rfl (nt_x_get (c := 11) (v := .ref (B + 12)) (rf_b hM) (rf_kb hM) rfl (nt_gfR rfl (rf_r12 hM))) ?_
  refine nt_rn_b 7 (c' := (12, [(0, .ref B), (1, .int (nI p)), (2, .int (nI w))], [.int ((52 + (5 * (nI p))) + (nI w)), .ref (B + 12)], M)) rfl ?_
  refine nt_rn_s (e := (12, .iaload, 0, 0)) rfl rfl (nt_x_iald (i := (52 + 5 * p + w)) (rf_n hM (k := 12) (by omega)) (rf_k12 hM) (rf_s hM) (by rw [show (52 : Int32) = nI 52 from rfl, show (5 : Int32) = nI 5 from rfl, pk_mul, nI_add, nI_add]) (by rw [show nt_l _ (B + 12) = _ from rf_l12 hM]; omega) (by show nt_l _ _ < 2147483648; rw [show nt_l _ (B + 12) = _ from rf_l12 hM]; omega)) ?_
  exact nt_rn_ri (e := (13, .ireturn, 0, 0)) rfl rfl rfl (by simp [nt_b, *]) (rfl)
theorem rm_voyageOf (X : nt_X) (d : Nat) {B : Nat} {M : nt_M} (hM : rf_sh B M) (x : Int32) {p : Nat} (hx : x = nI p) (hp : p < 8) (y : Int32) {w : Nat} (hy : y = nI w) (hw : w < 5)  : nt_ev X (d) 180 [.ref B, .int x, .int y] M (some (.int ((nt_I M (B + 12)) (172 + 5 * p + w))), M) := by
  subst hx
  subst hy
  show nt_rn X _ 180 (0, [(0, .ref B), (1, .int (nI p)), (2, .int (nI w))], [], M) _
  refine nt_rn_b 1 (c' := (1, [(0, .ref B), (1, .int (nI p)), (2, .int (nI w))], [.ref B], M)) rfl ?_
  refine nt_rn_s (e := (1, .getfield 45, 1127, 0)) rfl rfl (nt_x_get (c := 11) (v := .ref (B + 12)) (rf_b hM) (rf_kb hM) rfl (nt_gfR rfl (rf_r12 hM))) ?_
  refine nt_rn_b 7 (c' := (13, [(0, .ref B), (1, .int (nI p)), (2, .int (nI w))], [.int ((172 + (5 * (nI p))) + (nI w)), .ref (B + 12)], M)) rfl ?_
  refine nt_rn_s (e := (13, .iaload, 0, 0)) rfl rfl (nt_x_iald (i := (172 + 5 * p + w)) (rf_n hM (k := 12) (by omega)) (rf_k12 hM) (rf_s hM) (by rw [show (172 : Int32) = nI 172 from rfl, show (5 : Int32) = nI 5 from rfl, pk_mul, nI_add, nI_add]) (by rw [show nt_l _ (B + 12) = _ from rf_l12 hM]; omega) (by show nt_l _ _ < 2147483648; rw [show nt_l _ (B + 12) = _ from rf_l12 hM]; omega)) ?_
  exact nt_rn_ri (e := (14, .ireturn, 0, 0)) rfl rfl rfl (by simp [nt_b, *]) (rfl)
theorem rm_isYard (X : nt_X) (d : Nat) {B : Nat} {M : nt_M} (hM : rf_sh B M)  : nt_ev X (d) 188 [.ref B] M (some (.int (nt_b (!decide ((nt_I M (B + 12)) 0 ≤ 0)))), M) := by
  show nt_rn X _ 188 (0, [(0, .ref B)], [], M) _
  refine nt_rn_b 1 (c' := (1, [(0, .ref B)], [.ref B], M)) rfl ?_
  refine nt_rn_s (e := (1, .getfield 45, 1127, 0)) rfl rfl (nt_x_get (c := 11) (v := .ref (B + 12)) (rf_b hM) (rf_kb hM) rfl (nt_gfR rfl (rf_r12 hM))) ?_
  refine nt_rn_b 1 (c' := (5, [(0, .ref B)], [.int 0, .ref (B + 12)], M)) rfl ?_
  refine nt_rn_s (e := (5, .iaload, 0, 0)) rfl rfl (nt_x_iald (i := 0) (rf_n hM (k := 12) (by omega)) (rf_k12 hM) (rf_s hM) (by rw [show (0 : Int32) = nI 0 from rfl]) (by rw [show nt_l _ (B + 12) = _ from rf_l12 hM]; omega) (by show nt_l _ _ < 2147483648; rw [show nt_l _ (B + 12) = _ from rf_l12 hM]; omega)) ?_
  refine nt_rn_b 1 (c' := (if (nt_I M (B + 12) 0) ≤ 0 then 13 else 9, [(0, .ref B)], [], M)) rfl ?_
  refine nt_rn_if (fun h1 => ?_) (fun h1 => ?_)
  · refine nt_rn_b 1 (c' := (14, [(0, .ref B)], [.int 0], M)) rfl ?_
    exact nt_rn_rz (e := (14, .ireturn, 0, 0)) rfl rfl rfl (Or.inl rfl) (by simp [nt_b, *]) (rfl)
  · refine nt_rn_b 2 (c' := (14, [(0, .ref B)], [.int 1], M)) rfl ?_
    exact nt_rn_rz (e := (14, .ireturn, 0, 0)) rfl rfl rfl (Or.inr rfl) (by simp [nt_b, *]) (rfl)
theorem rm_isShip (X : nt_X) (d : Nat) {B : Nat} {M : nt_M} (hM : rf_sh B M) (s : Int32)  : nt_ev X (d) 168 [.ref B, .int s] M (some (.int (nt_b (!decide (s < 0) && !decide ((nt_I M (B + 12)) 1 ≤ s)))), M) := by
  show nt_rn X _ 168 (0, [(0, .ref B), (1, .int s)], [], M) _
  refine nt_rn_b 2 (c' := (if s < 0 then 18 else 4, [(0, .ref B), (1, .int s)], [], M)) rfl ?_
  refine nt_rn_if (fun h1 => ?_) (fun h1 => ?_)
  · refine nt_rn_b 1 (c' := (19, [(0, .ref B), (1, .int s)], [.int 0], M)) rfl ?_
    exact nt_rn_rz (e := (19, .ireturn, 0, 0)) rfl rfl rfl (Or.inl rfl) (by simp [nt_b, *]) (rfl)
  · refine nt_rn_b 2 (c' := (6, [(0, .ref B), (1, .int s)], [.ref B, .int s], M)) rfl ?_
    refine nt_rn_s (e := (6, .getfield 45, 1127, 0)) rfl rfl (nt_x_get (c := 11) (v := .ref (B + 12)) (rf_b hM) (rf_kb hM) rfl (nt_gfR rfl (rf_r12 hM))) ?_
    refine nt_rn_b 1 (c' := (10, [(0, .ref B), (1, .int s)], [.int 1, .ref (B + 12), .int s], M)) rfl ?_
    refine nt_rn_s (e := (10, .iaload, 0, 0)) rfl rfl (nt_x_iald (i := 1) (rf_n hM (k := 12) (by omega)) (rf_k12 hM) (rf_s hM) (by rw [show (1 : Int32) = nI 1 from rfl]) (by rw [show nt_l _ (B + 12) = _ from rf_l12 hM]; omega) (by show nt_l _ _ < 2147483648; rw [show nt_l _ (B + 12) = _ from rf_l12 hM]; omega)) ?_
    refine nt_rn_b 1 (c' := (if (nt_I M (B + 12) 1) ≤ s then 18 else 14, [(0, .ref B), (1, .int s)], [], M)) rfl ?_
    refine nt_rn_if (fun h2 => ?_) (fun h2 => ?_)
    · refine nt_rn_b 1 (c' := (19, [(0, .ref B), (1, .int s)], [.int 0], M)) rfl ?_
      exact nt_rn_rz (e := (19, .ireturn, 0, 0)) rfl rfl rfl (Or.inl rfl) (by simp [nt_b, *]) (rfl)
    · refine nt_rn_b 2 (c' := (19, [(0, .ref B), (1, .int s)], [.int 1], M)) rfl ?_
      exact nt_rn_rz (e := (19, .ireturn, 0, 0)) rfl rfl rfl (Or.inr rfl) (by simp [nt_b, *]) (rfl)
theorem rm_isPlank (X : nt_X) (d : Nat) {B : Nat} {M : nt_M} (hM : rf_sh B M) (s : Int32)  : nt_ev X (d) 177 [.ref B, .int s] M (some (.int (nt_b (!decide (s < 0) && !decide ((nt_I M (B + 12)) 2 ≤ s)))), M) := by
  show nt_rn X _ 177 (0, [(0, .ref B), (1, .int s)], [], M) _
  refine nt_rn_b 2 (c' := (if s < 0 then 18 else 4, [(0, .ref B), (1, .int s)], [], M)) rfl ?_
  refine nt_rn_if (fun h1 => ?_) (fun h1 => ?_)
  · refine nt_rn_b 1 (c' := (19, [(0, .ref B), (1, .int s)], [.int 0], M)) rfl ?_
    exact nt_rn_rz (e := (19, .ireturn, 0, 0)) rfl rfl rfl (Or.inl rfl) (by simp [nt_b, *]) (rfl)
  · refine nt_rn_b 2 (c' := (6, [(0, .ref B), (1, .int s)], [.ref B, .int s], M)) rfl ?_
    refine nt_rn_s (e := (6, .getfield 45, 1127, 0)) rfl rfl (nt_x_get (c := 11) (v := .ref (B + 12)) (rf_b hM) (rf_kb hM) rfl (nt_gfR rfl (rf_r12 hM))) ?_
    refine nt_rn_b 1 (c' := (10, [(0, .ref B), (1, .int s)], [.int 2, .ref (B + 12), .int s], M)) rfl ?_
    refine nt_rn_s (e := (10, .iaload, 0, 0)) rfl rfl (nt_x_iald (i := 2) (rf_n hM (k := 12) (by omega)) (rf_k12 hM) (rf_s hM) (by rw [show (2 : Int32) = nI 2 from rfl]) (by rw [show nt_l _ (B + 12) = _ from rf_l12 hM]; omega) (by show nt_l _ _ < 2147483648; rw [show nt_l _ (B + 12) = _ from rf_l12 hM]; omega)) ?_
    refine nt_rn_b 1 (c' := (if (nt_I M (B + 12) 2) ≤ s then 18 else 14, [(0, .ref B), (1, .int s)], [], M)) rfl ?_
    refine nt_rn_if (fun h2 => ?_) (fun h2 => ?_)
    · refine nt_rn_b 1 (c' := (19, [(0, .ref B), (1, .int s)], [.int 0], M)) rfl ?_
      exact nt_rn_rz (e := (19, .ireturn, 0, 0)) rfl rfl rfl (Or.inl rfl) (by simp [nt_b, *]) (rfl)
    · refine nt_rn_b 2 (c' := (19, [(0, .ref B), (1, .int s)], [.int 1], M)) rfl ?_
      exact nt_rn_rz (e := (19, .ireturn, 0, 0)) rfl rfl rfl (Or.inr rfl) (by simp [nt_b, *]) (rfl)
theorem rm_isVoyage (X : nt_X) (d : Nat) {B : Nat} {M : nt_M} (hM : rf_sh B M) (s : Int32)  : nt_ev X (d) 179 [.ref B, .int s] M (some (.int (nt_b (!decide (s < 0) && !decide ((nt_I M (B + 12)) 3 ≤ s)))), M) := by
  show nt_rn X _ 179 (0, [(0, .ref B), (1, .int s)], [], M) _
  refine nt_rn_b 2 (c' := (if s < 0 then 18 else 4, [(0, .ref B), (1, .int s)], [], M)) rfl ?_
  refine nt_rn_if (fun h1 => ?_) (fun h1 => ?_)
  · refine nt_rn_b 1 (c' := (19, [(0, .ref B), (1, .int s)], [.int 0], M)) rfl ?_
    exact nt_rn_rz (e := (19, .ireturn, 0, 0)) rfl rfl rfl (Or.inl rfl) (by simp [nt_b, *]) (rfl)
  · refine nt_rn_b 2 (c' := (6, [(0, .ref B), (1, .int s)], [.ref B, .int s], M)) rfl ?_
    refine nt_rn_s (e := (6, .getfield 45, 1127, 0)) rfl rfl (nt_x_get (c := 11) (v := .ref (B + 12)) (rf_b hM) (rf_kb hM) rfl (nt_gfR rfl (rf_r12 hM))) ?_
    refine nt_rn_b 1 (c' := (10, [(0, .ref B), (1, .int s)], [.int 3, .ref (B + 12), .int s], M)) rfl ?_
    refine nt_rn_s (e := (10, .iaload, 0, 0)) rfl rfl (nt_x_iald (i := 3) (rf_n hM (k := 12) (by omega)) (rf_k12 hM) (rf_s hM) (by rw [show (3 : Int32) = nI 3 from rfl]) (by rw [show nt_l _ (B + 12) = _ from rf_l12 hM]; omega) (by show nt_l _ _ < 2147483648; rw [show nt_l _ (B + 12) = _ from rf_l12 hM]; omega)) ?_
    refine nt_rn_b 1 (c' := (if (nt_I M (B + 12) 3) ≤ s then 18 else 14, [(0, .ref B), (1, .int s)], [], M)) rfl ?_
    refine nt_rn_if (fun h2 => ?_) (fun h2 => ?_)
    · refine nt_rn_b 1 (c' := (19, [(0, .ref B), (1, .int s)], [.int 0], M)) rfl ?_
      exact nt_rn_rz (e := (19, .ireturn, 0, 0)) rfl rfl rfl (Or.inl rfl) (by simp [nt_b, *]) (rfl)
    · refine nt_rn_b 2 (c' := (19, [(0, .ref B), (1, .int s)], [.int 1], M)) rfl ?_
      exact nt_rn_rz (e := (19, .ireturn, 0, 0)) rfl rfl rfl (Or.inr rfl) (by simp [nt_b, *]) (rfl)
theorem rm_areHands (X : nt_X) (d : Nat) {B : Nat} {M : nt_M} (hM : rf_sh B M)  : nt_ev X (d) 184 [.ref B] M (some (.int (nt_b (!decide ((nt_I M (B + 12)) 5 ≤ (nt_I M (B + 12)) 6)))), M) := by
  show nt_rn X _ 184 (0, [(0, .ref B)], [], M) _
  refine nt_rn_b 1 (c' := (1, [(0, .ref B)], [.ref B], M)) rfl ?_
  refine nt_rn_s (e := (1, .getfield 45, 1127, 0)) rfl rfl (nt_x_get (c := 11) (v := .ref (B + 12)) (rf_b hM) (rf_kb hM) rfl (nt_gfR rfl (rf_r12 hM))) ?_
  refine nt_rn_b 1 (c' := (6, [(0, .ref B)], [.int 6, .ref (B + 12)], M)) rfl ?_
  refine nt_rn_s (e := (6, .iaload, 0, 0)) rfl rfl (nt_x_iald (i := 6) (rf_n hM (k := 12) (by omega)) (rf_k12 hM) (rf_s hM) (by rw [show (6 : Int32) = nI 6 from rfl]) (by rw [show nt_l _ (B + 12) = _ from rf_l12 hM]; omega) (by show nt_l _ _ < 2147483648; rw [show nt_l _ (B + 12) = _ from rf_l12 hM]; omega)) ?_
  refine nt_rn_b 1 (c' := (8, [(0, .ref B)], [.ref B, .int (nt_I M (B + 12) 6)], M)) rfl ?_
  refine nt_rn_s (e := (8, .getfield 45, 1127, 0)) rfl rfl (nt_x_get (c := 11) (v := .ref (B + 12)) (rf_b hM) (rf_kb hM) rfl (nt_gfR rfl (rf_r12 hM))) ?_
  refine nt_rn_b 1 (c' := (12, [(0, .ref B)], [.int 5, .ref (B + 12), .int (nt_I M (B + 12) 6)], M)) rfl ?_
  refine nt_rn_s (e := (12, .iaload, 0, 0)) rfl rfl (nt_x_iald (i := 5) (rf_n hM (k := 12) (by omega)) (rf_k12 hM) (rf_s hM) (by rw [show (5 : Int32) = nI 5 from rfl]) (by rw [show nt_l _ (B + 12) = _ from rf_l12 hM]; omega) (by show nt_l _ _ < 2147483648; rw [show nt_l _ (B + 12) = _ from rf_l12 hM]; omega)) ?_
  refine nt_rn_b 1 (c' := (if (nt_I M (B + 12) 5) ≤ (nt_I M (B + 12) 6) then 20 else 16, [(0, .ref B)], [], M)) rfl ?_
  refine nt_rn_if (fun h1 => ?_) (fun h1 => ?_)
  · refine nt_rn_b 1 (c' := (21, [(0, .ref B)], [.int 0], M)) rfl ?_
    exact nt_rn_rz (e := (21, .ireturn, 0, 0)) rfl rfl rfl (Or.inl rfl) (by simp [nt_b, *]) (rfl)
  · refine nt_rn_b 2 (c' := (21, [(0, .ref B)], [.int 1], M)) rfl ?_
    exact nt_rn_rz (e := (21, .ireturn, 0, 0)) rfl rfl rfl (Or.inr rfl) (by simp [nt_b, *]) (rfl)
theorem rm_isSound (X : nt_X) (d : Nat) {B : Nat} {M : nt_M} (hM : rf_sh B M) (x : Int32) {p : Nat} (hx : x = nI p) (hp : p < 24)  : nt_ev X (d + 1) 172 [.ref B, .int x] M (some (.int (nt_b (sp_sd (nt_I M (B + 12)) p))), M) := by
  subst hx
  show nt_rn X _ 172 (0, [(0, .ref B), (1, .int (nI p))], [], M) _
  refine nt_rn_b 3 (c' := (3, [(0, .ref B), (1, .int (nI p))], [.int 1, .int (nI p), .ref B], M)) rfl ?_
  refine nt_rn_c (g := 173) (q := 1) (vs := [.ref B, .int (nI p), .int 1]) (rest := []) (e := (3, .invokevirtual 264, 173, 0)) rfl rfl (Or.inr (Or.inl ⟨_, rfl, rfl⟩)) rfl (fun _ => nt_rcI (rf_b hM) (rf_kb hM)) (fun h => by cases h) (rm_plankOf X _ hM (nI p) (rfl) (by omega) 1 (by rw [show (1 : Int32) = nI 1 from rfl]) (by omega) ) ?_
  show nt_rn X _ 172 (6, [(0, .ref B), (1, .int (nI p))], [.int ((nt_I M (B + 12)) (52 + 5 * p + 1))], M) _
  refine nt_rn_b 1 (c' := (if ((nt_I M (B + 12)) (52 + 5 * p + 1)) ≤ 0 then 22 else 9, [(0, .ref B), (1, .int (nI p))], [], M)) rfl ?_
  refine nt_rn_if (fun h1 => ?_) (fun h1 => ?_)
  · refine nt_rn_b 1 (c' := (23, [(0, .ref B), (1, .int (nI p))], [.int 0], M)) rfl ?_
    exact nt_rn_rz (e := (23, .ireturn, 0, 0)) rfl rfl rfl (Or.inl rfl) (by simp [nt_b, sp_sd, *]) (rfl)
  · refine nt_rn_b 3 (c' := (12, [(0, .ref B), (1, .int (nI p))], [.int 4, .int (nI p), .ref B], M)) rfl ?_
    refine nt_rn_c (g := 173) (q := 1) (vs := [.ref B, .int (nI p), .int 4]) (rest := []) (e := (12, .invokevirtual 264, 173, 0)) rfl rfl (Or.inr (Or.inl ⟨_, rfl, rfl⟩)) rfl (fun _ => nt_rcI (rf_b hM) (rf_kb hM)) (fun h => by cases h) (rm_plankOf X _ hM (nI p) (rfl) (by omega) 4 (by rw [show (4 : Int32) = nI 4 from rfl]) (by omega) ) ?_
    show nt_rn X _ 172 (15, [(0, .ref B), (1, .int (nI p))], [.int ((nt_I M (B + 12)) (52 + 5 * p + 4))], M) _
    refine nt_rn_b 1 (c' := (if ((nt_I M (B + 12)) (52 + 5 * p + 4)) = 0 then 18 else 22, [(0, .ref B), (1, .int (nI p))], [], M)) rfl ?_
    refine nt_rn_if (fun h2 => ?_) (fun h2 => ?_)
    · refine nt_rn_b 2 (c' := (23, [(0, .ref B), (1, .int (nI p))], [.int 1], M)) rfl ?_
      exact nt_rn_rz (e := (23, .ireturn, 0, 0)) rfl rfl rfl (Or.inr rfl) (by simp [nt_b, sp_sd, *]) (rfl)
    · refine nt_rn_b 1 (c' := (23, [(0, .ref B), (1, .int (nI p))], [.int 0], M)) rfl ?_
      exact nt_rn_rz (e := (23, .ireturn, 0, 0)) rfl rfl rfl (Or.inl rfl) (by simp [nt_b, sp_sd, *]) (rfl)
theorem rm_isIn (X : nt_X) (d : Nat) {B : Nat} {M : nt_M} (hM : rf_sh B M) (x : Int32) {p : Nat} (hx : x = nI p) (hp : p < 24) (s : Int32)  : nt_ev X (d + 2) 171 [.ref B, .int x, .int s] M (some (.int (nt_b (sp_in (nt_I M (B + 12)) p s))), M) := by
  subst hx
  show nt_rn X _ 171 (0, [(0, .ref B), (1, .int (nI p)), (2, .int s)], [], M) _
  refine nt_rn_b 2 (c' := (2, [(0, .ref B), (1, .int (nI p)), (2, .int s)], [.int (nI p), .ref B], M)) rfl ?_
  refine nt_rn_c (g := 172) (q := 1) (vs := [.ref B, .int (nI p)]) (rest := []) (e := (2, .invokevirtual 268, 172, 0)) rfl rfl (Or.inr (Or.inl ⟨_, rfl, rfl⟩)) rfl (fun _ => nt_rcI (rf_b hM) (rf_kb hM)) (fun h => by cases h) (rm_isSound X _ hM (nI p) (rfl) (by omega) ) ?_
  show nt_rn X _ 171 (5, [(0, .ref B), (1, .int (nI p)), (2, .int s)], [.int (nt_b (sp_sd (nt_I M (B + 12)) p))], M) _
  refine nt_rn_b 1 (c' := (if (nt_b (sp_sd (nt_I M (B + 12)) p)) = 0 then 22 else 8, [(0, .ref B), (1, .int (nI p)), (2, .int s)], [], M)) rfl ?_
  refine nt_rn_ifb (fun h1 => ?_) (fun h1 => ?_)
  · refine nt_rn_b 1 (c' := (23, [(0, .ref B), (1, .int (nI p)), (2, .int s)], [.int 0], M)) rfl ?_
    exact nt_rn_rz (e := (23, .ireturn, 0, 0)) rfl rfl rfl (Or.inl rfl) (by simp [nt_b, sp_in, *]) (rfl)
  · refine nt_rn_b 3 (c' := (11, [(0, .ref B), (1, .int (nI p)), (2, .int s)], [.int 3, .int (nI p), .ref B], M)) rfl ?_
    refine nt_rn_c (g := 173) (q := 1) (vs := [.ref B, .int (nI p), .int 3]) (rest := []) (e := (11, .invokevirtual 264, 173, 0)) rfl rfl (Or.inr (Or.inl ⟨_, rfl, rfl⟩)) rfl (fun _ => nt_rcI (rf_b hM) (rf_kb hM)) (fun h => by cases h) (rm_plankOf X _ hM (nI p) (rfl) (by omega) 3 (by rw [show (3 : Int32) = nI 3 from rfl]) (by omega) ) ?_
    show nt_rn X _ 171 (14, [(0, .ref B), (1, .int (nI p)), (2, .int s)], [.int ((nt_I M (B + 12)) (52 + 5 * p + 3))], M) _
    refine nt_rn_b 2 (c' := (if ((nt_I M (B + 12)) (52 + 5 * p + 3)) = s then 18 else 22, [(0, .ref B), (1, .int (nI p)), (2, .int s)], [], M)) rfl ?_
    refine nt_rn_if (fun h2 => ?_) (fun h2 => ?_)
    · refine nt_rn_b 2 (c' := (23, [(0, .ref B), (1, .int (nI p)), (2, .int s)], [.int 1], M)) rfl ?_
      exact nt_rn_rz (e := (23, .ireturn, 0, 0)) rfl rfl rfl (Or.inr rfl) (by simp [nt_b, sp_in, *]) (rfl)
    · refine nt_rn_b 1 (c' := (23, [(0, .ref B), (1, .int (nI p)), (2, .int s)], [.int 0], M)) rfl ?_
      exact nt_rn_rz (e := (23, .ireturn, 0, 0)) rfl rfl rfl (Or.inl rfl) (by simp [nt_b, sp_in, *]) (rfl)
theorem rm_soundIn (X : nt_X) (d : Nat) {B : Nat} {M : nt_M} (hM : rf_sh B M) {K N P V : Nat} (hW : sp_wf K N P V (nt_I M (B + 12))) (s : Int32)  : nt_ev X (d + 3) 170 [.ref B, .int s] M (some (.int (sp_si (nt_I M (B + 12)) s P)), M) := by
  obtain ⟨w0, w1, w2, w3, w4, w5, w6, w7, w8, w9⟩ := id hW
  show nt_rn X _ 170 (0, [(0, .ref B), (1, .int s)], [], M) _
  refine nt_rn_b 4 (c' := (4, [(3, .int 0), (2, .int 0), (0, .ref B), (1, .int s)], [], M)) rfl ?_
  refine nt_rn_w (a := [(3, .int (nI 0)), (2, .int (sp_si (nt_I M (B + 12)) s 0)), (0, .ref B), (1, .int s)]) ⟨rfl, rfl, rfl, rfl, trivial⟩ rfl ?_
  refine nt_loop (fun i => (4, [(3, .int (nI i)), (2, .int (sp_si (nt_I M (B + 12)) s i)), (0, .ref B), (1, .int s)], [], M)) P ?_ (fun i hi hki => ?_) P 0 (Nat.zero_add _)
  · show nt_rn X _ 170 (4, [(3, .int (nI P)), (2, .int (sp_si (nt_I M (B + 12)) s P)), (0, .ref B), (1, .int s)], [], M) _
    refine nt_rn_b 2 (c' := (6, [(3, .int (nI P)), (2, .int (sp_si (nt_I M (B + 12)) s P)), (0, .ref B), (1, .int s)], [.ref B, .int (nI P)], M)) rfl ?_
    refine nt_rn_s (e := (6, .getfield 45, 1127, 0)) rfl rfl (nt_x_get (c := 11) (v := .ref (B + 12)) (rf_b hM) (rf_kb hM) rfl (nt_gfR rfl (rf_r12 hM))) ?_
    refine nt_rn_b 1 (c' := (10, [(3, .int (nI P)), (2, .int (sp_si (nt_I M (B + 12)) s P)), (0, .ref B), (1, .int s)], [.int 2, .ref (B + 12), .int (nI P)], M)) rfl ?_
    refine nt_rn_s (e := (10, .iaload, 0, 0)) rfl rfl (nt_x_iald (i := 2) (rf_n hM (k := 12) (by omega)) (rf_k12 hM) (rf_s hM) (by rw [show (2 : Int32) = nI 2 from rfl]) (by rw [show nt_l _ (B + 12) = _ from rf_l12 hM]; omega) (by show nt_l _ _ < 2147483648; rw [show nt_l _ (B + 12) = _ from rf_l12 hM]; omega)) ?_
    refine nt_rn_b 1 (c' := (if (nt_I M (B + 12) 2) ≤ (nI P) then 37 else 14, [(3, .int (nI P)), (2, .int (sp_si (nt_I M (B + 12)) s P)), (0, .ref B), (1, .int s)], [], M)) rfl ?_
    refine nt_rn_t (by rw [w4]; exact nI_le (Nat.le_refl _) (by omega)) ?_
    refine nt_rn_b 1 (c' := (38, [(3, .int (nI P)), (2, .int (sp_si (nt_I M (B + 12)) s P)), (0, .ref B), (1, .int s)], [.int (sp_si (nt_I M (B + 12)) s P)], M)) rfl ?_
    exact nt_rn_ri (e := (38, .ireturn, 0, 0)) rfl rfl rfl (by rfl) (rfl)
  · show nt_rn X _ 170 (4, [(3, .int (nI i)), (2, .int (sp_si (nt_I M (B + 12)) s i)), (0, .ref B), (1, .int s)], [], M) _
    refine nt_rn_b 2 (c' := (6, [(3, .int (nI i)), (2, .int (sp_si (nt_I M (B + 12)) s i)), (0, .ref B), (1, .int s)], [.ref B, .int (nI i)], M)) rfl ?_
    refine nt_rn_s (e := (6, .getfield 45, 1127, 0)) rfl rfl (nt_x_get (c := 11) (v := .ref (B + 12)) (rf_b hM) (rf_kb hM) rfl (nt_gfR rfl (rf_r12 hM))) ?_
    refine nt_rn_b 1 (c' := (10, [(3, .int (nI i)), (2, .int (sp_si (nt_I M (B + 12)) s i)), (0, .ref B), (1, .int s)], [.int 2, .ref (B + 12), .int (nI i)], M)) rfl ?_
    refine nt_rn_s (e := (10, .iaload, 0, 0)) rfl rfl (nt_x_iald (i := 2) (rf_n hM (k := 12) (by omega)) (rf_k12 hM) (rf_s hM) (by rw [show (2 : Int32) = nI 2 from rfl]) (by rw [show nt_l _ (B + 12) = _ from rf_l12 hM]; omega) (by show nt_l _ _ < 2147483648; rw [show nt_l _ (B + 12) = _ from rf_l12 hM]; omega)) ?_
    refine nt_rn_b 1 (c' := (if (nt_I M (B + 12) 2) ≤ (nI i) then 37 else 14, [(3, .int (nI i)), (2, .int (sp_si (nt_I M (B + 12)) s i)), (0, .ref B), (1, .int s)], [], M)) rfl ?_
    refine nt_rn_f (by rw [w4]; exact nI_ge hi (by omega)) ?_
    refine nt_rn_b 4 (c' := (18, [(3, .int (nI i)), (2, .int (sp_si (nt_I M (B + 12)) s i)), (0, .ref B), (1, .int s)], [.int s, .int (nI i), .ref B, .int (sp_si (nt_I M (B + 12)) s i)], M)) rfl ?_
    refine nt_rn_c (g := 171) (q := 1) (vs := [.ref B, .int (nI i), .int s]) (rest := [.int (sp_si (nt_I M (B + 12)) s i)]) (e := (18, .invokevirtual 271, 171, 0)) rfl rfl (Or.inr (Or.inl ⟨_, rfl, rfl⟩)) rfl (fun _ => nt_rcI (rf_b hM) (rf_kb hM)) (fun h => by cases h) (rm_isIn X _ hM (nI i) (rfl) (by omega) s ) ?_
    show nt_rn X _ 170 (21, [(3, .int (nI i)), (2, .int (sp_si (nt_I M (B + 12)) s i)), (0, .ref B), (1, .int s)], [.int (nt_b (sp_in (nt_I M (B + 12)) i s)), .int (sp_si (nt_I M (B + 12)) s i)], M) _
    refine nt_rn_b 1 (c' := (if (nt_b (sp_in (nt_I M (B + 12)) i s)) = 0 then 28 else 24, [(3, .int (nI i)), (2, .int (sp_si (nt_I M (B + 12)) s i)), (0, .ref B), (1, .int s)], [.int (sp_si (nt_I M (B + 12)) s i)], M)) rfl ?_
    refine nt_rn_ifb (fun h1 => ?_) (fun h1 => ?_)
    · refine nt_rn_b 5 (c' := (4, [(3, .int ((nI i) + 1)), (2, .int ((sp_si (nt_I M (B + 12)) s i) + 0)), (0, .ref B), (1, .int s)], [], M)) rfl ?_
      refine nt_rn_w (a := [(3, .int (nI (i + 1))), (2, .int (sp_si (nt_I M (B + 12)) s (i + 1))), (0, .ref B), (1, .int s)]) ⟨nt_eqi rfl (nI_1 i), nt_eqi rfl (by simp [sp_si, nt_sm, nt_b, *]), rfl, rfl, trivial⟩ rfl ?_
      exact hki
    · refine nt_rn_b 6 (c' := (4, [(3, .int ((nI i) + 1)), (2, .int ((sp_si (nt_I M (B + 12)) s i) + 1)), (0, .ref B), (1, .int s)], [], M)) rfl ?_
      refine nt_rn_w (a := [(3, .int (nI (i + 1))), (2, .int (sp_si (nt_I M (B + 12)) s (i + 1))), (0, .ref B), (1, .int s)]) ⟨nt_eqi rfl (nI_1 i), nt_eqi rfl (by simp [sp_si, nt_sm, nt_b, *]), rfl, rfl, trivial⟩ rfl ?_
      exact hki
theorem rm_isAshore (X : nt_X) (d : Nat) {B : Nat} {M : nt_M} (hM : rf_sh B M) (x : Int32) {p : Nat} (hx : x = nI p) (hp : p < 6)  : nt_ev X (d + 1) 182 [.ref B, .int x] M (some (.int (nt_b (sp_as (nt_I M (B + 12)) p))), M) := by
  subst hx
  show nt_rn X _ 182 (0, [(0, .ref B), (1, .int (nI p))], [], M) _
  refine nt_rn_b 3 (c' := (3, [(0, .ref B), (1, .int (nI p))], [.int 4, .int (nI p), .ref B], M)) rfl ?_
  refine nt_rn_c (g := 169) (q := 1) (vs := [.ref B, .int (nI p), .int 4]) (rest := []) (e := (3, .invokevirtual 274, 169, 0)) rfl rfl (Or.inr (Or.inl ⟨_, rfl, rfl⟩)) rfl (fun _ => nt_rcI (rf_b hM) (rf_kb hM)) (fun h => by cases h) (rm_shipOf X _ hM (nI p) (rfl) (by omega) 4 (by rw [show (4 : Int32) = nI 4 from rfl]) (by omega) ) ?_
  show nt_rn X _ 182 (6, [(0, .ref B), (1, .int (nI p))], [.int ((nt_I M (B + 12)) (10 + 7 * p + 4))], M) _
  refine nt_rn_b 1 (c' := (if ((nt_I M (B + 12)) (10 + 7 * p + 4)) = 0 then 9 else 13, [(0, .ref B), (1, .int (nI p))], [], M)) rfl ?_
  refine nt_rn_if (fun h1 => ?_) (fun h1 => ?_)
  · refine nt_rn_b 2 (c' := (14, [(0, .ref B), (1, .int (nI p))], [.int 1], M)) rfl ?_
    exact nt_rn_rz (e := (14, .ireturn, 0, 0)) rfl rfl rfl (Or.inr rfl) (by simp [nt_b, sp_as, *]) (rfl)
  · refine nt_rn_b 1 (c' := (14, [(0, .ref B), (1, .int (nI p))], [.int 0], M)) rfl ?_
    exact nt_rn_rz (e := (14, .ireturn, 0, 0)) rfl rfl rfl (Or.inl rfl) (by simp [nt_b, sp_as, *]) (rfl)
def sp_lf (S : Nat → Int32) (p k : Nat) (q : Nat) : Int32 := nt_b (sp_in S q (nI p) && decide (S (52 + 5 * q) = nI k))
def sp_lk (S : Nat → Int32) (P p k : Nat) : Int32 := if 0 ≤ nt_sd (S (10 + 7 * p + k)) (sp_lf S p k) P then nt_sd (S (10 + 7 * p + k)) (sp_lf S p k) P else 0
def sp_wh (S : Nat → Int32) (K P p : Nat) : Bool := decide (nt_ff (fun k => !decide (sp_lk S P p k ≤ 0)) K 0 = K)
def sp_bt (S : Nat → Int32) (V : Nat) (s : Int32) : Bool := !decide (nt_ff (fun v => decide (S (172 + 5 * v) = s) && decide (S (172 + 5 * v + 1) = S 4)) V 0 = V)
def sp_fi (S : Nat → Int32) (P : Nat) (s : Int32) : Int32 := if nt_ff (fun p => sp_in S p s) P 0 = P then -1 else nI (nt_ff (fun p => sp_in S p s) P 0)
def sp_ow (S : Nat → Int32) (s q : Int32) : Nat → Int32 := nt_sm (fun p => nt_b (sp_in S p s && decide (S (52 + 5 * p + 2) = q)))
def sp_nl (S : Nat → Int32) (k : Int32) : Nat → Int32 := nt_sm (fun p => nt_b (decide (S (52 + 5 * p) = k) && decide (S (52 + 5 * p + 4) = 0)))
def sp_on (S : Nat → Int32) (set : Int32) (v : Nat) (day : Int32) : Bool := decide ((set >>> (nI v &&& 31)) &&& 1 = 1) && (!decide (day < S (172 + 5 * v + 1)) && !decide (S (172 + 5 * v + 2) ≤ day))
def sp_ah (S : Nat → Int32) (p : Nat) : Bool := sp_sd S p && (decide (S (52 + 5 * p + 3) < 0) || sp_as S (S (52 + 5 * p + 3)).toNatClampNeg)
def sp_mi (S : Nat → Int32) (P : Nat) (s : Int32) : Nat → Int32 × Int32
  | 0 => (-1, 0)
  | q + 1 => if sp_ow S s (nI q) P ≤ (sp_mi S P s q).2 then sp_mi S P s q else (nI q, sp_ow S s (nI q) P)
def sp_po (S : Nat → Int32) (set : Int32) : Nat → Int32 := nt_sm (fun v => if (set >>> (nI v &&& 31)) &&& 1 = 1 then S (172 + 5 * v + 3) else 0)
theorem rm_lacksOf (X : nt_X) (d : Nat) {B : Nat} {M : nt_M} (hM : rf_sh B M) {K N P V : Nat} (hW : sp_wf K N P V (nt_I M (B + 12))) (x : Int32) {p : Nat} (hx : x = nI p) (hp : p < 6) (y : Int32) {k : Nat} (hy : y = nI k) (hk : k < 4)  : nt_ev X (d + 3) 175 [.ref B, .int x, .int y] M (some (.int (sp_lk (nt_I M (B + 12)) P p k)), M) := by
  obtain ⟨w0, w1, w2, w3, w4, w5, w6, w7, w8, w9⟩ := id hW
  subst hx
  subst hy
  show nt_rn X _ 175 (0, [(0, .ref B), (1, .int (nI p)), (2, .int (nI k))], [], M) _
  refine nt_rn_b 3 (c' := (3, [(0, .ref B), (1, .int (nI p)), (2, .int (nI k))], [.int (nI k), .int (nI p), .ref B], M)) rfl ?_
  refine nt_rn_c (g := 169) (q := 1) (vs := [.ref B, .int (nI p), .int (nI k)]) (rest := []) (e := (3, .invokevirtual 274, 169, 0)) rfl rfl (Or.inr (Or.inl ⟨_, rfl, rfl⟩)) rfl (fun _ => nt_rcI (rf_b hM) (rf_kb hM)) (fun h => by cases h) (rm_shipOf X _ hM (nI p) (rfl) (by omega) (nI k) (rfl) (by omega) ) ?_
  show nt_rn X _ 175 (6, [(0, .ref B), (1, .int (nI p)), (2, .int (nI k))], [.int ((nt_I M (B + 12)) (10 + 7 * p + k))], M) _
  refine nt_rn_b 3 (c' := (10, [(4, .int 0), (3, .int ((nt_I M (B + 12)) (10 + 7 * p + k))), (0, .ref B), (1, .int (nI p)), (2, .int (nI k))], [], M)) rfl ?_
  refine nt_rn_w (a := [(4, .int (nI 0)), (3, .int (nt_sd ((nt_I M (B + 12)) (10 + 7 * p + k)) (sp_lf (nt_I M (B + 12)) p k) 0)), (0, .ref B), (1, .int (nI p)), (2, .int (nI k))]) ⟨rfl, rfl, rfl, rfl, rfl, trivial⟩ rfl ?_
  refine nt_loop (fun i => (10, [(4, .int (nI i)), (3, .int (nt_sd ((nt_I M (B + 12)) (10 + 7 * p + k)) (sp_lf (nt_I M (B + 12)) p k) i)), (0, .ref B), (1, .int (nI p)), (2, .int (nI k))], [], M)) P ?_ (fun i hi hki => ?_) P 0 (Nat.zero_add _)
  · show nt_rn X _ 175 (10, [(4, .int (nI P)), (3, .int (nt_sd ((nt_I M (B + 12)) (10 + 7 * p + k)) (sp_lf (nt_I M (B + 12)) p k) P)), (0, .ref B), (1, .int (nI p)), (2, .int (nI k))], [], M) _
    refine nt_rn_b 2 (c' := (13, [(4, .int (nI P)), (3, .int (nt_sd ((nt_I M (B + 12)) (10 + 7 * p + k)) (sp_lf (nt_I M (B + 12)) p k) P)), (0, .ref B), (1, .int (nI p)), (2, .int (nI k))], [.ref B, .int (nI P)], M)) rfl ?_
    refine nt_rn_s (e := (13, .getfield 45, 1127, 0)) rfl rfl (nt_x_get (c := 11) (v := .ref (B + 12)) (rf_b hM) (rf_kb hM) rfl (nt_gfR rfl (rf_r12 hM))) ?_
    refine nt_rn_b 1 (c' := (17, [(4, .int (nI P)), (3, .int (nt_sd ((nt_I M (B + 12)) (10 + 7 * p + k)) (sp_lf (nt_I M (B + 12)) p k) P)), (0, .ref B), (1, .int (nI p)), (2, .int (nI k))], [.int 2, .ref (B + 12), .int (nI P)], M)) rfl ?_
    refine nt_rn_s (e := (17, .iaload, 0, 0)) rfl rfl (nt_x_iald (i := 2) (rf_n hM (k := 12) (by omega)) (rf_k12 hM) (rf_s hM) (by rw [show (2 : Int32) = nI 2 from rfl]) (by rw [show nt_l _ (B + 12) = _ from rf_l12 hM]; omega) (by show nt_l _ _ < 2147483648; rw [show nt_l _ (B + 12) = _ from rf_l12 hM]; omega)) ?_
    refine nt_rn_b 1 (c' := (if (nt_I M (B + 12) 2) ≤ (nI P) then 56 else 21, [(4, .int (nI P)), (3, .int (nt_sd ((nt_I M (B + 12)) (10 + 7 * p + k)) (sp_lf (nt_I M (B + 12)) p k) P)), (0, .ref B), (1, .int (nI p)), (2, .int (nI k))], [], M)) rfl ?_
    refine nt_rn_t (by rw [w4]; exact nI_le (Nat.le_refl _) (by omega)) ?_
    refine nt_rn_b 2 (c' := (if 0 ≤ (nt_sd ((nt_I M (B + 12)) (10 + 7 * p + k)) (sp_lf (nt_I M (B + 12)) p k) P) then 64 else 60, [(4, .int (nI P)), (3, .int (nt_sd ((nt_I M (B + 12)) (10 + 7 * p + k)) (sp_lf (nt_I M (B + 12)) p k) P)), (0, .ref B), (1, .int (nI p)), (2, .int (nI k))], [], M)) rfl ?_
    refine nt_rn_if (fun h1 => ?_) (fun h1 => ?_)
    · refine nt_rn_b 1 (c' := (65, [(4, .int (nI P)), (3, .int (nt_sd ((nt_I M (B + 12)) (10 + 7 * p + k)) (sp_lf (nt_I M (B + 12)) p k) P)), (0, .ref B), (1, .int (nI p)), (2, .int (nI k))], [.int (nt_sd ((nt_I M (B + 12)) (10 + 7 * p + k)) (sp_lf (nt_I M (B + 12)) p k) P)], M)) rfl ?_
      exact nt_rn_ri (e := (65, .ireturn, 0, 0)) rfl rfl rfl (by simp [sp_lk, *]) (rfl)
    · refine nt_rn_b 2 (c' := (65, [(4, .int (nI P)), (3, .int (nt_sd ((nt_I M (B + 12)) (10 + 7 * p + k)) (sp_lf (nt_I M (B + 12)) p k) P)), (0, .ref B), (1, .int (nI p)), (2, .int (nI k))], [.int 0], M)) rfl ?_
      exact nt_rn_ri (e := (65, .ireturn, 0, 0)) rfl rfl rfl (by simp [sp_lk, *]) (rfl)
  · show nt_rn X _ 175 (10, [(4, .int (nI i)), (3, .int (nt_sd ((nt_I M (B + 12)) (10 + 7 * p + k)) (sp_lf (nt_I M (B + 12)) p k) i)), (0, .ref B), (1, .int (nI p)), (2, .int (nI k))], [], M) _
    refine nt_rn_b 2 (c' := (13, [(4, .int (nI i)), (3, .int (nt_sd ((nt_I M (B + 12)) (10 + 7 * p + k)) (sp_lf (nt_I M (B + 12)) p k) i)), (0, .ref B), (1, .int (nI p)), (2, .int (nI k))], [.ref B, .int (nI i)], M)) rfl ?_
    refine nt_rn_s (e := (13, .getfield 45, 1127, 0)) rfl rfl (nt_x_get (c := 11) (v := .ref (B + 12)) (rf_b hM) (rf_kb hM) rfl (nt_gfR rfl (rf_r12 hM))) ?_
    refine nt_rn_b 1 (c' := (17, [(4, .int (nI i)), (3, .int (nt_sd ((nt_I M (B + 12)) (10 + 7 * p + k)) (sp_lf (nt_I M (B + 12)) p k) i)), (0, .ref B), (1, .int (nI p)), (2, .int (nI k))], [.int 2, .ref (B + 12), .int (nI i)], M)) rfl ?_
    refine nt_rn_s (e := (17, .iaload, 0, 0)) rfl rfl (nt_x_iald (i := 2) (rf_n hM (k := 12) (by omega)) (rf_k12 hM) (rf_s hM) (by rw [show (2 : Int32) = nI 2 from rfl]) (by rw [show nt_l _ (B + 12) = _ from rf_l12 hM]; omega) (by show nt_l _ _ < 2147483648; rw [show nt_l _ (B + 12) = _ from rf_l12 hM]; omega)) ?_
    refine nt_rn_b 1 (c' := (if (nt_I M (B + 12) 2) ≤ (nI i) then 56 else 21, [(4, .int (nI i)), (3, .int (nt_sd ((nt_I M (B + 12)) (10 + 7 * p + k)) (sp_lf (nt_I M (B + 12)) p k) i)), (0, .ref B), (1, .int (nI p)), (2, .int (nI k))], [], M)) rfl ?_
    refine nt_rn_f (by rw [w4]; exact nI_ge hi (by omega)) ?_
    refine nt_rn_b 4 (c' := (26, [(4, .int (nI i)), (3, .int (nt_sd ((nt_I M (B + 12)) (10 + 7 * p + k)) (sp_lf (nt_I M (B + 12)) p k) i)), (0, .ref B), (1, .int (nI p)), (2, .int (nI k))], [.int (nI p), .int (nI i), .ref B, .int (nt_sd ((nt_I M (B + 12)) (10 + 7 * p + k)) (sp_lf (nt_I M (B + 12)) p k) i)], M)) rfl ?_
    refine nt_rn_c (g := 171) (q := 1) (vs := [.ref B, .int (nI i), .int (nI p)]) (rest := [.int (nt_sd ((nt_I M (B + 12)) (10 + 7 * p + k)) (sp_lf (nt_I M (B + 12)) p k) i)]) (e := (26, .invokevirtual 271, 171, 0)) rfl rfl (Or.inr (Or.inl ⟨_, rfl, rfl⟩)) rfl (fun _ => nt_rcI (rf_b hM) (rf_kb hM)) (fun h => by cases h) (rm_isIn X _ hM (nI i) (rfl) (by omega) (nI p) ) ?_
    show nt_rn X _ 175 (29, [(4, .int (nI i)), (3, .int (nt_sd ((nt_I M (B + 12)) (10 + 7 * p + k)) (sp_lf (nt_I M (B + 12)) p k) i)), (0, .ref B), (1, .int (nI p)), (2, .int (nI k))], [.int (nt_b (sp_in (nt_I M (B + 12)) i (nI p))), .int (nt_sd ((nt_I M (B + 12)) (10 + 7 * p + k)) (sp_lf (nt_I M (B + 12)) p k) i)], M) _
    refine nt_rn_b 1 (c' := (if (nt_b (sp_in (nt_I M (B + 12)) i (nI p))) = 0 then 47 else 32, [(4, .int (nI i)), (3, .int (nt_sd ((nt_I M (B + 12)) (10 + 7 * p + k)) (sp_lf (nt_I M (B + 12)) p k) i)), (0, .ref B), (1, .int (nI p)), (2, .int (nI k))], [.int (nt_sd ((nt_I M (B + 12)) (10 + 7 * p + k)) (sp_lf (nt_I M (B + 12)) p k) i)], M)) rfl ?_
    refine nt_rn_ifb (fun h2 => ?_) (fun h2 => ?_)
    · refine nt_rn_b 5 (c' := (10, [(4, .int ((nI i) + 1)), (3, .int ((nt_sd ((nt_I M (B + 12)) (10 + 7 * p + k)) (sp_lf (nt_I M (B + 12)) p k) i) - 0)), (0, .ref B), (1, .int (nI p)), (2, .int (nI k))], [], M)) rfl ?_
      refine nt_rn_w (a := [(4, .int (nI (i + 1))), (3, .int (nt_sd ((nt_I M (B + 12)) (10 + 7 * p + k)) (sp_lf (nt_I M (B + 12)) p k) (i + 1))), (0, .ref B), (1, .int (nI p)), (2, .int (nI k))]) ⟨nt_eqi rfl (nI_1 i), nt_eqi rfl (by simp [nt_sd, sp_lf, nt_b, *]), rfl, rfl, rfl, trivial⟩ rfl ?_
      exact hki
    · refine nt_rn_b 3 (c' := (36, [(4, .int (nI i)), (3, .int (nt_sd ((nt_I M (B + 12)) (10 + 7 * p + k)) (sp_lf (nt_I M (B + 12)) p k) i)), (0, .ref B), (1, .int (nI p)), (2, .int (nI k))], [.int 0, .int (nI i), .ref B, .int (nt_sd ((nt_I M (B + 12)) (10 + 7 * p + k)) (sp_lf (nt_I M (B + 12)) p k) i)], M)) rfl ?_
      refine nt_rn_c (g := 173) (q := 1) (vs := [.ref B, .int (nI i), .int 0]) (rest := [.int (nt_sd ((nt_I M (B + 12)) (10 + 7 * p + k)) (sp_lf (nt_I M (B + 12)) p k) i)]) (e := (36, .invokevirtual 264, 173, 0)) rfl rfl (Or.inr (Or.inl ⟨_, rfl, rfl⟩)) rfl (fun _ => nt_rcI (rf_b hM) (rf_kb hM)) (fun h => by cases h) (rm_plankOf X _ hM (nI i) (rfl) (by omega) 0 (by rw [show (0 : Int32) = nI 0 from rfl]) (by omega) ) ?_
      show nt_rn X _ 175 (39, [(4, .int (nI i)), (3, .int (nt_sd ((nt_I M (B + 12)) (10 + 7 * p + k)) (sp_lf (nt_I M (B + 12)) p k) i)), (0, .ref B), (1, .int (nI p)), (2, .int (nI k))], [.int ((nt_I M (B + 12)) (52 + 5 * i)), .int (nt_sd ((nt_I M (B + 12)) (10 + 7 * p + k)) (sp_lf (nt_I M (B + 12)) p k) i)], M) _
      refine nt_rn_b 2 (c' := (if ((nt_I M (B + 12)) (52 + 5 * i)) = (nI k) then 43 else 47, [(4, .int (nI i)), (3, .int (nt_sd ((nt_I M (B + 12)) (10 + 7 * p + k)) (sp_lf (nt_I M (B + 12)) p k) i)), (0, .ref B), (1, .int (nI p)), (2, .int (nI k))], [.int (nt_sd ((nt_I M (B + 12)) (10 + 7 * p + k)) (sp_lf (nt_I M (B + 12)) p k) i)], M)) rfl ?_
      refine nt_rn_if (fun h3 => ?_) (fun h3 => ?_)
      · refine nt_rn_b 6 (c' := (10, [(4, .int ((nI i) + 1)), (3, .int ((nt_sd ((nt_I M (B + 12)) (10 + 7 * p + k)) (sp_lf (nt_I M (B + 12)) p k) i) - 1)), (0, .ref B), (1, .int (nI p)), (2, .int (nI k))], [], M)) rfl ?_
        refine nt_rn_w (a := [(4, .int (nI (i + 1))), (3, .int (nt_sd ((nt_I M (B + 12)) (10 + 7 * p + k)) (sp_lf (nt_I M (B + 12)) p k) (i + 1))), (0, .ref B), (1, .int (nI p)), (2, .int (nI k))]) ⟨nt_eqi rfl (nI_1 i), nt_eqi rfl (by simp [nt_sd, sp_lf, nt_b, *]), rfl, rfl, rfl, trivial⟩ rfl ?_
        exact hki
      · refine nt_rn_b 5 (c' := (10, [(4, .int ((nI i) + 1)), (3, .int ((nt_sd ((nt_I M (B + 12)) (10 + 7 * p + k)) (sp_lf (nt_I M (B + 12)) p k) i) - 0)), (0, .ref B), (1, .int (nI p)), (2, .int (nI k))], [], M)) rfl ?_
        refine nt_rn_w (a := [(4, .int (nI (i + 1))), (3, .int (nt_sd ((nt_I M (B + 12)) (10 + 7 * p + k)) (sp_lf (nt_I M (B + 12)) p k) (i + 1))), (0, .ref B), (1, .int (nI p)), (2, .int (nI k))]) ⟨nt_eqi rfl (nI_1 i), nt_eqi rfl (by simp [nt_sd, sp_lf, nt_b, *]), rfl, rfl, rfl, trivial⟩ rfl ?_
        exact hki
theorem rm_isWhole (X : nt_X) (d : Nat) {B : Nat} {M : nt_M} (hM : rf_sh B M) {K N P V : Nat} (hW : sp_wf K N P V (nt_I M (B + 12))) (x : Int32) {p : Nat} (hx : x = nI p) (hp : p < 6)  : nt_ev X (d + 4) 174 [.ref B, .int x] M (some (.int (nt_b (sp_wh (nt_I M (B + 12)) K P p))), M) := by
  obtain ⟨w0, w1, w2, w3, w4, w5, w6, w7, w8, w9⟩ := id hW
  subst hx
  show nt_rn X _ 174 (0, [(0, .ref B), (1, .int (nI p))], [], M) _
  refine nt_rn_b 2 (c' := (2, [(2, .int 0), (0, .ref B), (1, .int (nI p))], [], M)) rfl ?_
  refine nt_rn_w (a := [(2, .int (nI 0)), (0, .ref B), (1, .int (nI p))]) ⟨rfl, rfl, rfl, trivial⟩ rfl ?_
  refine nt_loopI (fun i => (2, [(2, .int (nI i)), (0, .ref B), (1, .int (nI p))], [], M)) (fun i => nt_ff (fun k => !decide (sp_lk (nt_I M (B + 12)) P p k ≤ 0)) K 0 = nt_ff (fun k => !decide (sp_lk (nt_I M (B + 12)) P p k ≤ 0)) K i) K (fun hIi => ?_) (fun i hi hIi hki => ?_) K 0 (Nat.zero_add _) (rfl)
  · show nt_rn X _ 174 (2, [(2, .int (nI K)), (0, .ref B), (1, .int (nI p))], [], M) _
    try dsimp only at hIi
    refine nt_rn_b 2 (c' := (4, [(2, .int (nI K)), (0, .ref B), (1, .int (nI p))], [.ref B, .int (nI K)], M)) rfl ?_
    refine nt_rn_s (e := (4, .getfield 45, 1127, 0)) rfl rfl (nt_x_get (c := 11) (v := .ref (B + 12)) (rf_b hM) (rf_kb hM) rfl (nt_gfR rfl (rf_r12 hM))) ?_
    refine nt_rn_b 1 (c' := (8, [(2, .int (nI K)), (0, .ref B), (1, .int (nI p))], [.int 0, .ref (B + 12), .int (nI K)], M)) rfl ?_
    refine nt_rn_s (e := (8, .iaload, 0, 0)) rfl rfl (nt_x_iald (i := 0) (rf_n hM (k := 12) (by omega)) (rf_k12 hM) (rf_s hM) (by rw [show (0 : Int32) = nI 0 from rfl]) (by rw [show nt_l _ (B + 12) = _ from rf_l12 hM]; omega) (by show nt_l _ _ < 2147483648; rw [show nt_l _ (B + 12) = _ from rf_l12 hM]; omega)) ?_
    refine nt_rn_b 1 (c' := (if (nt_I M (B + 12) 0) ≤ (nI K) then 29 else 12, [(2, .int (nI K)), (0, .ref B), (1, .int (nI p))], [], M)) rfl ?_
    refine nt_rn_t (by rw [w0]; exact nI_le (Nat.le_refl _) (by omega)) ?_
    refine nt_rn_b 1 (c' := (30, [(2, .int (nI K)), (0, .ref B), (1, .int (nI p))], [.int 1], M)) rfl ?_
    exact nt_rn_rz (e := (30, .ireturn, 0, 0)) rfl rfl rfl (Or.inr rfl) (by (first | (simp [nt_b, sp_wh, hIi, nt_ff_end]; done) | (rw [sp_wh, hIi, nt_ff_at hi (by simp [*]), decide_eq_false (by omega)]; rfl))) (rfl)
  · show nt_rn X _ 174 (2, [(2, .int (nI i)), (0, .ref B), (1, .int (nI p))], [], M) _
    try dsimp only at hIi hki
    refine nt_rn_b 2 (c' := (4, [(2, .int (nI i)), (0, .ref B), (1, .int (nI p))], [.ref B, .int (nI i)], M)) rfl ?_
    refine nt_rn_s (e := (4, .getfield 45, 1127, 0)) rfl rfl (nt_x_get (c := 11) (v := .ref (B + 12)) (rf_b hM) (rf_kb hM) rfl (nt_gfR rfl (rf_r12 hM))) ?_
    refine nt_rn_b 1 (c' := (8, [(2, .int (nI i)), (0, .ref B), (1, .int (nI p))], [.int 0, .ref (B + 12), .int (nI i)], M)) rfl ?_
    refine nt_rn_s (e := (8, .iaload, 0, 0)) rfl rfl (nt_x_iald (i := 0) (rf_n hM (k := 12) (by omega)) (rf_k12 hM) (rf_s hM) (by rw [show (0 : Int32) = nI 0 from rfl]) (by rw [show nt_l _ (B + 12) = _ from rf_l12 hM]; omega) (by show nt_l _ _ < 2147483648; rw [show nt_l _ (B + 12) = _ from rf_l12 hM]; omega)) ?_
    refine nt_rn_b 1 (c' := (if (nt_I M (B + 12) 0) ≤ (nI i) then 29 else 12, [(2, .int (nI i)), (0, .ref B), (1, .int (nI p))], [], M)) rfl ?_
    refine nt_rn_f (by rw [w0]; exact nI_ge hi (by omega)) ?_
    refine nt_rn_b 3 (c' := (15, [(2, .int (nI i)), (0, .ref B), (1, .int (nI p))], [.int (nI i), .int (nI p), .ref B], M)) rfl ?_
    refine nt_rn_c (g := 175) (q := 1) (vs := [.ref B, .int (nI p), .int (nI i)]) (rest := []) (e := (15, .invokevirtual 277, 175, 0)) rfl rfl (Or.inr (Or.inl ⟨_, rfl, rfl⟩)) rfl (fun _ => nt_rcI (rf_b hM) (rf_kb hM)) (fun h => by cases h) (rm_lacksOf X _ hM hW (nI p) (rfl) (by omega) (nI i) (rfl) (by omega) ) ?_
    show nt_rn X _ 174 (18, [(2, .int (nI i)), (0, .ref B), (1, .int (nI p))], [.int (sp_lk (nt_I M (B + 12)) P p i)], M) _
    refine nt_rn_b 1 (c' := (if (sp_lk (nt_I M (B + 12)) P p i) ≤ 0 then 23 else 21, [(2, .int (nI i)), (0, .ref B), (1, .int (nI p))], [], M)) rfl ?_
    refine nt_rn_if (fun h1 => ?_) (fun h1 => ?_)
    · refine nt_rn_b 2 (c' := (2, [(2, .int ((nI i) + 1)), (0, .ref B), (1, .int (nI p))], [], M)) rfl ?_
      refine nt_rn_w (a := [(2, .int (nI (i + 1))), (0, .ref B), (1, .int (nI p))]) ⟨nt_eqi rfl (nI_1 i), rfl, rfl, trivial⟩ rfl ?_
      exact hki (by rw [hIi, nt_ff_step _ hi]; simp [*])
    · refine nt_rn_b 1 (c' := (22, [(2, .int (nI i)), (0, .ref B), (1, .int (nI p))], [.int 0], M)) rfl ?_
      exact nt_rn_rz (e := (22, .ireturn, 0, 0)) rfl rfl rfl (Or.inl rfl) (by (first | (simp [nt_b, sp_wh, hIi, nt_ff_end]; done) | (rw [sp_wh, hIi, nt_ff_at hi (by simp [*]), decide_eq_false (by omega)]; rfl))) (rfl)
theorem rm_beginsToday (X : nt_X) (d : Nat) {B : Nat} {M : nt_M} (hM : rf_sh B M) {K N P V : Nat} (hW : sp_wf K N P V (nt_I M (B + 12))) (s : Int32)  : nt_ev X (d + 1) 195 [.ref B, .int s] M (some (.int (nt_b (sp_bt (nt_I M (B + 12)) V s))), M) := by
  obtain ⟨w0, w1, w2, w3, w4, w5, w6, w7, w8, w9⟩ := id hW
  show nt_rn X _ 195 (0, [(0, .ref B), (1, .int s)], [], M) _
  refine nt_rn_b 2 (c' := (2, [(2, .int 0), (0, .ref B), (1, .int s)], [], M)) rfl ?_
  refine nt_rn_w (a := [(2, .int (nI 0)), (0, .ref B), (1, .int s)]) ⟨rfl, rfl, rfl, trivial⟩ rfl ?_
  refine nt_loopI (fun i => (2, [(2, .int (nI i)), (0, .ref B), (1, .int s)], [], M)) (fun i => nt_ff (fun v => decide ((nt_I M (B + 12)) (172 + 5 * v) = s) && decide ((nt_I M (B + 12)) (172 + 5 * v + 1) = (nt_I M (B + 12)) 4)) V 0 = nt_ff (fun v => decide ((nt_I M (B + 12)) (172 + 5 * v) = s) && decide ((nt_I M (B + 12)) (172 + 5 * v + 1) = (nt_I M (B + 12)) 4)) V i) V (fun hIi => ?_) (fun i hi hIi hki => ?_) V 0 (Nat.zero_add _) (rfl)
  · show nt_rn X _ 195 (2, [(2, .int (nI V)), (0, .ref B), (1, .int s)], [], M) _
    try dsimp only at hIi
    refine nt_rn_b 2 (c' := (4, [(2, .int (nI V)), (0, .ref B), (1, .int s)], [.ref B, .int (nI V)], M)) rfl ?_
    refine nt_rn_s (e := (4, .getfield 45, 1127, 0)) rfl rfl (nt_x_get (c := 11) (v := .ref (B + 12)) (rf_b hM) (rf_kb hM) rfl (nt_gfR rfl (rf_r12 hM))) ?_
    refine nt_rn_b 1 (c' := (8, [(2, .int (nI V)), (0, .ref B), (1, .int s)], [.int 3, .ref (B + 12), .int (nI V)], M)) rfl ?_
    refine nt_rn_s (e := (8, .iaload, 0, 0)) rfl rfl (nt_x_iald (i := 3) (rf_n hM (k := 12) (by omega)) (rf_k12 hM) (rf_s hM) (by rw [show (3 : Int32) = nI 3 from rfl]) (by rw [show nt_l _ (B + 12) = _ from rf_l12 hM]; omega) (by show nt_l _ _ < 2147483648; rw [show nt_l _ (B + 12) = _ from rf_l12 hM]; omega)) ?_
    refine nt_rn_b 1 (c' := (if (nt_I M (B + 12) 3) ≤ (nI V) then 45 else 12, [(2, .int (nI V)), (0, .ref B), (1, .int s)], [], M)) rfl ?_
    refine nt_rn_t (by rw [w6]; exact nI_le (Nat.le_refl _) (by omega)) ?_
    refine nt_rn_b 1 (c' := (46, [(2, .int (nI V)), (0, .ref B), (1, .int s)], [.int 0], M)) rfl ?_
    exact nt_rn_rz (e := (46, .ireturn, 0, 0)) rfl rfl rfl (Or.inl rfl) (by (first | (simp [nt_b, sp_bt, hIi, nt_ff_end]; done) | (rw [sp_bt, hIi, nt_ff_at hi (by simp [*]), decide_eq_false (by omega)]; rfl))) (rfl)
  · show nt_rn X _ 195 (2, [(2, .int (nI i)), (0, .ref B), (1, .int s)], [], M) _
    try dsimp only at hIi hki
    refine nt_rn_b 2 (c' := (4, [(2, .int (nI i)), (0, .ref B), (1, .int s)], [.ref B, .int (nI i)], M)) rfl ?_
    refine nt_rn_s (e := (4, .getfield 45, 1127, 0)) rfl rfl (nt_x_get (c := 11) (v := .ref (B + 12)) (rf_b hM) (rf_kb hM) rfl (nt_gfR rfl (rf_r12 hM))) ?_
    refine nt_rn_b 1 (c' := (8, [(2, .int (nI i)), (0, .ref B), (1, .int s)], [.int 3, .ref (B + 12), .int (nI i)], M)) rfl ?_
    refine nt_rn_s (e := (8, .iaload, 0, 0)) rfl rfl (nt_x_iald (i := 3) (rf_n hM (k := 12) (by omega)) (rf_k12 hM) (rf_s hM) (by rw [show (3 : Int32) = nI 3 from rfl]) (by rw [show nt_l _ (B + 12) = _ from rf_l12 hM]; omega) (by show nt_l _ _ < 2147483648; rw [show nt_l _ (B + 12) = _ from rf_l12 hM]; omega)) ?_
    refine nt_rn_b 1 (c' := (if (nt_I M (B + 12) 3) ≤ (nI i) then 45 else 12, [(2, .int (nI i)), (0, .ref B), (1, .int s)], [], M)) rfl ?_
    refine nt_rn_f (by rw [w6]; exact nI_ge hi (by omega)) ?_
    refine nt_rn_b 3 (c' := (15, [(2, .int (nI i)), (0, .ref B), (1, .int s)], [.int 0, .int (nI i), .ref B], M)) rfl ?_
    refine nt_rn_c (g := 180) (q := 1) (vs := [.ref B, .int (nI i), .int 0]) (rest := []) (e := (15, .invokevirtual 299, 180, 0)) rfl rfl (Or.inr (Or.inl ⟨_, rfl, rfl⟩)) rfl (fun _ => nt_rcI (rf_b hM) (rf_kb hM)) (fun h => by cases h) (rm_voyageOf X _ hM (nI i) (rfl) (by omega) 0 (by rw [show (0 : Int32) = nI 0 from rfl]) (by omega) ) ?_
    show nt_rn X _ 195 (18, [(2, .int (nI i)), (0, .ref B), (1, .int s)], [.int ((nt_I M (B + 12)) (172 + 5 * i))], M) _
    refine nt_rn_b 2 (c' := (if ((nt_I M (B + 12)) (172 + 5 * i)) = s then 22 else 39, [(2, .int (nI i)), (0, .ref B), (1, .int s)], [], M)) rfl ?_
    refine nt_rn_if (fun h1 => ?_) (fun h1 => ?_)
    · refine nt_rn_b 3 (c' := (25, [(2, .int (nI i)), (0, .ref B), (1, .int s)], [.int 1, .int (nI i), .ref B], M)) rfl ?_
      refine nt_rn_c (g := 180) (q := 1) (vs := [.ref B, .int (nI i), .int 1]) (rest := []) (e := (25, .invokevirtual 299, 180, 0)) rfl rfl (Or.inr (Or.inl ⟨_, rfl, rfl⟩)) rfl (fun _ => nt_rcI (rf_b hM) (rf_kb hM)) (fun h => by cases h) (rm_voyageOf X _ hM (nI i) (rfl) (by omega) 1 (by rw [show (1 : Int32) = nI 1 from rfl]) (by omega) ) ?_
      show nt_rn X _ 195 (28, [(2, .int (nI i)), (0, .ref B), (1, .int s)], [.int ((nt_I M (B + 12)) (172 + 5 * i + 1))], M) _
      refine nt_rn_b 1 (c' := (29, [(2, .int (nI i)), (0, .ref B), (1, .int s)], [.ref B, .int ((nt_I M (B + 12)) (172 + 5 * i + 1))], M)) rfl ?_
      refine nt_rn_s (e := (29, .getfield 45, 1127, 0)) rfl rfl (nt_x_get (c := 11) (v := .ref (B + 12)) (rf_b hM) (rf_kb hM) rfl (nt_gfR rfl (rf_r12 hM))) ?_
      refine nt_rn_b 1 (c' := (33, [(2, .int (nI i)), (0, .ref B), (1, .int s)], [.int 4, .ref (B + 12), .int ((nt_I M (B + 12)) (172 + 5 * i + 1))], M)) rfl ?_
      refine nt_rn_s (e := (33, .iaload, 0, 0)) rfl rfl (nt_x_iald (i := 4) (rf_n hM (k := 12) (by omega)) (rf_k12 hM) (rf_s hM) (by rw [show (4 : Int32) = nI 4 from rfl]) (by rw [show nt_l _ (B + 12) = _ from rf_l12 hM]; omega) (by show nt_l _ _ < 2147483648; rw [show nt_l _ (B + 12) = _ from rf_l12 hM]; omega)) ?_
      refine nt_rn_b 1 (c' := (if ((nt_I M (B + 12)) (172 + 5 * i + 1)) = (nt_I M (B + 12) 4) then 37 else 39, [(2, .int (nI i)), (0, .ref B), (1, .int s)], [], M)) rfl ?_
      refine nt_rn_if (fun h2 => ?_) (fun h2 => ?_)
      · refine nt_rn_b 1 (c' := (38, [(2, .int (nI i)), (0, .ref B), (1, .int s)], [.int 1], M)) rfl ?_
        exact nt_rn_rz (e := (38, .ireturn, 0, 0)) rfl rfl rfl (Or.inr rfl) (by (first | (simp [nt_b, sp_bt, hIi, nt_ff_end]; done) | (rw [sp_bt, hIi, nt_ff_at hi (by simp [*]), decide_eq_false (by omega)]; rfl))) (rfl)
      · refine nt_rn_b 2 (c' := (2, [(2, .int ((nI i) + 1)), (0, .ref B), (1, .int s)], [], M)) rfl ?_
        refine nt_rn_w (a := [(2, .int (nI (i + 1))), (0, .ref B), (1, .int s)]) ⟨nt_eqi rfl (nI_1 i), rfl, rfl, trivial⟩ rfl ?_
        exact hki (by rw [hIi, nt_ff_step _ hi]; simp [*])
    · refine nt_rn_b 2 (c' := (2, [(2, .int ((nI i) + 1)), (0, .ref B), (1, .int s)], [], M)) rfl ?_
      refine nt_rn_w (a := [(2, .int (nI (i + 1))), (0, .ref B), (1, .int s)]) ⟨nt_eqi rfl (nI_1 i), rfl, rfl, trivial⟩ rfl ?_
      exact hki (by rw [hIi, nt_ff_step _ hi]; simp [*])
theorem rm_firstIn (X : nt_X) (d : Nat) {B : Nat} {M : nt_M} (hM : rf_sh B M) {K N P V : Nat} (hW : sp_wf K N P V (nt_I M (B + 12))) (s : Int32)  : nt_ev X (d + 3) 232 [.ref B, .int s] M (some (.int (sp_fi (nt_I M (B + 12)) P s)), M) := by
  obtain ⟨w0, w1, w2, w3, w4, w5, w6, w7, w8, w9⟩ := id hW
  show nt_rn X _ 232 (0, [(0, .ref B), (1, .int s)], [], M) _
  refine nt_rn_b 2 (c' := (2, [(2, .int 0), (0, .ref B), (1, .int s)], [], M)) rfl ?_
  refine nt_rn_w (a := [(2, .int (nI 0)), (0, .ref B), (1, .int s)]) ⟨rfl, rfl, rfl, trivial⟩ rfl ?_
  refine nt_loopI (fun i => (2, [(2, .int (nI i)), (0, .ref B), (1, .int s)], [], M)) (fun i => nt_ff (fun p => sp_in (nt_I M (B + 12)) p s) P 0 = nt_ff (fun p => sp_in (nt_I M (B + 12)) p s) P i) P (fun hIi => ?_) (fun i hi hIi hki => ?_) P 0 (Nat.zero_add _) (rfl)
  · show nt_rn X _ 232 (2, [(2, .int (nI P)), (0, .ref B), (1, .int s)], [], M) _
    try dsimp only at hIi
    refine nt_rn_b 2 (c' := (4, [(2, .int (nI P)), (0, .ref B), (1, .int s)], [.ref B, .int (nI P)], M)) rfl ?_
    refine nt_rn_s (e := (4, .getfield 45, 1127, 0)) rfl rfl (nt_x_get (c := 11) (v := .ref (B + 12)) (rf_b hM) (rf_kb hM) rfl (nt_gfR rfl (rf_r12 hM))) ?_
    refine nt_rn_b 1 (c' := (8, [(2, .int (nI P)), (0, .ref B), (1, .int s)], [.int 2, .ref (B + 12), .int (nI P)], M)) rfl ?_
    refine nt_rn_s (e := (8, .iaload, 0, 0)) rfl rfl (nt_x_iald (i := 2) (rf_n hM (k := 12) (by omega)) (rf_k12 hM) (rf_s hM) (by rw [show (2 : Int32) = nI 2 from rfl]) (by rw [show nt_l _ (B + 12) = _ from rf_l12 hM]; omega) (by show nt_l _ _ < 2147483648; rw [show nt_l _ (B + 12) = _ from rf_l12 hM]; omega)) ?_
    refine nt_rn_b 1 (c' := (if (nt_I M (B + 12) 2) ≤ (nI P) then 29 else 12, [(2, .int (nI P)), (0, .ref B), (1, .int s)], [], M)) rfl ?_
    refine nt_rn_t (by rw [w4]; exact nI_le (Nat.le_refl _) (by omega)) ?_
    refine nt_rn_b 1 (c' := (30, [(2, .int (nI P)), (0, .ref B), (1, .int s)], [.int (-1)], M)) rfl ?_
    exact nt_rn_ri (e := (30, .ireturn, 0, 0)) rfl rfl rfl (by (first | (simp [sp_fi, hIi, nt_ff_end]; done) | (rw [sp_fi, hIi, nt_ff_step _ hi]; simp [*]; omega))) (rfl)
  · show nt_rn X _ 232 (2, [(2, .int (nI i)), (0, .ref B), (1, .int s)], [], M) _
    try dsimp only at hIi hki
    refine nt_rn_b 2 (c' := (4, [(2, .int (nI i)), (0, .ref B), (1, .int s)], [.ref B, .int (nI i)], M)) rfl ?_
    refine nt_rn_s (e := (4, .getfield 45, 1127, 0)) rfl rfl (nt_x_get (c := 11) (v := .ref (B + 12)) (rf_b hM) (rf_kb hM) rfl (nt_gfR rfl (rf_r12 hM))) ?_
    refine nt_rn_b 1 (c' := (8, [(2, .int (nI i)), (0, .ref B), (1, .int s)], [.int 2, .ref (B + 12), .int (nI i)], M)) rfl ?_
    refine nt_rn_s (e := (8, .iaload, 0, 0)) rfl rfl (nt_x_iald (i := 2) (rf_n hM (k := 12) (by omega)) (rf_k12 hM) (rf_s hM) (by rw [show (2 : Int32) = nI 2 from rfl]) (by rw [show nt_l _ (B + 12) = _ from rf_l12 hM]; omega) (by show nt_l _ _ < 2147483648; rw [show nt_l _ (B + 12) = _ from rf_l12 hM]; omega)) ?_
    refine nt_rn_b 1 (c' := (if (nt_I M (B + 12) 2) ≤ (nI i) then 29 else 12, [(2, .int (nI i)), (0, .ref B), (1, .int s)], [], M)) rfl ?_
    refine nt_rn_f (by rw [w4]; exact nI_ge hi (by omega)) ?_
    refine nt_rn_b 3 (c' := (15, [(2, .int (nI i)), (0, .ref B), (1, .int s)], [.int s, .int (nI i), .ref B], M)) rfl ?_
    refine nt_rn_c (g := 171) (q := 1) (vs := [.ref B, .int (nI i), .int s]) (rest := []) (e := (15, .invokevirtual 271, 171, 0)) rfl rfl (Or.inr (Or.inl ⟨_, rfl, rfl⟩)) rfl (fun _ => nt_rcI (rf_b hM) (rf_kb hM)) (fun h => by cases h) (rm_isIn X _ hM (nI i) (rfl) (by omega) s ) ?_
    show nt_rn X _ 232 (18, [(2, .int (nI i)), (0, .ref B), (1, .int s)], [.int (nt_b (sp_in (nt_I M (B + 12)) i s))], M) _
    refine nt_rn_b 1 (c' := (if (nt_b (sp_in (nt_I M (B + 12)) i s)) = 0 then 23 else 21, [(2, .int (nI i)), (0, .ref B), (1, .int s)], [], M)) rfl ?_
    refine nt_rn_ifb (fun h1 => ?_) (fun h1 => ?_)
    · refine nt_rn_b 2 (c' := (2, [(2, .int ((nI i) + 1)), (0, .ref B), (1, .int s)], [], M)) rfl ?_
      refine nt_rn_w (a := [(2, .int (nI (i + 1))), (0, .ref B), (1, .int s)]) ⟨nt_eqi rfl (nI_1 i), rfl, rfl, trivial⟩ rfl ?_
      exact hki (by rw [hIi, nt_ff_step _ hi]; simp [*])
    · refine nt_rn_b 1 (c' := (22, [(2, .int (nI i)), (0, .ref B), (1, .int s)], [.int (nI i)], M)) rfl ?_
      exact nt_rn_ri (e := (22, .ireturn, 0, 0)) rfl rfl rfl (by (first | (simp [sp_fi, hIi, nt_ff_end]; done) | (rw [sp_fi, hIi, nt_ff_step _ hi]; simp [*]; omega))) (rfl)
theorem rm_ofOwner (X : nt_X) (d : Nat) {B : Nat} {M : nt_M} (hM : rf_sh B M) {K N P V : Nat} (hW : sp_wf K N P V (nt_I M (B + 12))) (s : Int32) (q : Int32)  : nt_ev X (d + 3) 220 [.ref B, .int s, .int q] M (some (.int (sp_ow (nt_I M (B + 12)) s q P)), M) := by
  obtain ⟨w0, w1, w2, w3, w4, w5, w6, w7, w8, w9⟩ := id hW
  show nt_rn X _ 220 (0, [(0, .ref B), (1, .int s), (2, .int q)], [], M) _
  refine nt_rn_b 4 (c' := (5, [(4, .int 0), (3, .int 0), (0, .ref B), (1, .int s), (2, .int q)], [], M)) rfl ?_
  refine nt_rn_w (a := [(4, .int (nI 0)), (3, .int (sp_ow (nt_I M (B + 12)) s q 0)), (0, .ref B), (1, .int s), (2, .int q)]) ⟨rfl, rfl, rfl, rfl, rfl, trivial⟩ rfl ?_
  refine nt_loop (fun i => (5, [(4, .int (nI i)), (3, .int (sp_ow (nt_I M (B + 12)) s q i)), (0, .ref B), (1, .int s), (2, .int q)], [], M)) P ?_ (fun i hi hki => ?_) P 0 (Nat.zero_add _)
  · show nt_rn X _ 220 (5, [(4, .int (nI P)), (3, .int (sp_ow (nt_I M (B + 12)) s q P)), (0, .ref B), (1, .int s), (2, .int q)], [], M) _
    refine nt_rn_b 2 (c' := (8, [(4, .int (nI P)), (3, .int (sp_ow (nt_I M (B + 12)) s q P)), (0, .ref B), (1, .int s), (2, .int q)], [.ref B, .int (nI P)], M)) rfl ?_
    refine nt_rn_s (e := (8, .getfield 45, 1127, 0)) rfl rfl (nt_x_get (c := 11) (v := .ref (B + 12)) (rf_b hM) (rf_kb hM) rfl (nt_gfR rfl (rf_r12 hM))) ?_
    refine nt_rn_b 1 (c' := (12, [(4, .int (nI P)), (3, .int (sp_ow (nt_I M (B + 12)) s q P)), (0, .ref B), (1, .int s), (2, .int q)], [.int 2, .ref (B + 12), .int (nI P)], M)) rfl ?_
    refine nt_rn_s (e := (12, .iaload, 0, 0)) rfl rfl (nt_x_iald (i := 2) (rf_n hM (k := 12) (by omega)) (rf_k12 hM) (rf_s hM) (by rw [show (2 : Int32) = nI 2 from rfl]) (by rw [show nt_l _ (B + 12) = _ from rf_l12 hM]; omega) (by show nt_l _ _ < 2147483648; rw [show nt_l _ (B + 12) = _ from rf_l12 hM]; omega)) ?_
    refine nt_rn_b 1 (c' := (if (nt_I M (B + 12) 2) ≤ (nI P) then 51 else 16, [(4, .int (nI P)), (3, .int (sp_ow (nt_I M (B + 12)) s q P)), (0, .ref B), (1, .int s), (2, .int q)], [], M)) rfl ?_
    refine nt_rn_t (by rw [w4]; exact nI_le (Nat.le_refl _) (by omega)) ?_
    refine nt_rn_b 1 (c' := (52, [(4, .int (nI P)), (3, .int (sp_ow (nt_I M (B + 12)) s q P)), (0, .ref B), (1, .int s), (2, .int q)], [.int (sp_ow (nt_I M (B + 12)) s q P)], M)) rfl ?_
    exact nt_rn_ri (e := (52, .ireturn, 0, 0)) rfl rfl rfl (by rfl) (rfl)
  · show nt_rn X _ 220 (5, [(4, .int (nI i)), (3, .int (sp_ow (nt_I M (B + 12)) s q i)), (0, .ref B), (1, .int s), (2, .int q)], [], M) _
    refine nt_rn_b 2 (c' := (8, [(4, .int (nI i)), (3, .int (sp_ow (nt_I M (B + 12)) s q i)), (0, .ref B), (1, .int s), (2, .int q)], [.ref B, .int (nI i)], M)) rfl ?_
    refine nt_rn_s (e := (8, .getfield 45, 1127, 0)) rfl rfl (nt_x_get (c := 11) (v := .ref (B + 12)) (rf_b hM) (rf_kb hM) rfl (nt_gfR rfl (rf_r12 hM))) ?_
    refine nt_rn_b 1 (c' := (12, [(4, .int (nI i)), (3, .int (sp_ow (nt_I M (B + 12)) s q i)), (0, .ref B), (1, .int s), (2, .int q)], [.int 2, .ref (B + 12), .int (nI i)], M)) rfl ?_
    refine nt_rn_s (e := (12, .iaload, 0, 0)) rfl rfl (nt_x_iald (i := 2) (rf_n hM (k := 12) (by omega)) (rf_k12 hM) (rf_s hM) (by rw [show (2 : Int32) = nI 2 from rfl]) (by rw [show nt_l _ (B + 12) = _ from rf_l12 hM]; omega) (by show nt_l _ _ < 2147483648; rw [show nt_l _ (B + 12) = _ from rf_l12 hM]; omega)) ?_
    refine nt_rn_b 1 (c' := (if (nt_I M (B + 12) 2) ≤ (nI i) then 51 else 16, [(4, .int (nI i)), (3, .int (sp_ow (nt_I M (B + 12)) s q i)), (0, .ref B), (1, .int s), (2, .int q)], [], M)) rfl ?_
    refine nt_rn_f (by rw [w4]; exact nI_ge hi (by omega)) ?_
    refine nt_rn_b 4 (c' := (21, [(4, .int (nI i)), (3, .int (sp_ow (nt_I M (B + 12)) s q i)), (0, .ref B), (1, .int s), (2, .int q)], [.int s, .int (nI i), .ref B, .int (sp_ow (nt_I M (B + 12)) s q i)], M)) rfl ?_
    refine nt_rn_c (g := 171) (q := 1) (vs := [.ref B, .int (nI i), .int s]) (rest := [.int (sp_ow (nt_I M (B + 12)) s q i)]) (e := (21, .invokevirtual 271, 171, 0)) rfl rfl (Or.inr (Or.inl ⟨_, rfl, rfl⟩)) rfl (fun _ => nt_rcI (rf_b hM) (rf_kb hM)) (fun h => by cases h) (rm_isIn X _ hM (nI i) (rfl) (by omega) s ) ?_
    show nt_rn X _ 220 (24, [(4, .int (nI i)), (3, .int (sp_ow (nt_I M (B + 12)) s q i)), (0, .ref B), (1, .int s), (2, .int q)], [.int (nt_b (sp_in (nt_I M (B + 12)) i s)), .int (sp_ow (nt_I M (B + 12)) s q i)], M) _
    refine nt_rn_b 1 (c' := (if (nt_b (sp_in (nt_I M (B + 12)) i s)) = 0 then 42 else 27, [(4, .int (nI i)), (3, .int (sp_ow (nt_I M (B + 12)) s q i)), (0, .ref B), (1, .int s), (2, .int q)], [.int (sp_ow (nt_I M (B + 12)) s q i)], M)) rfl ?_
    refine nt_rn_ifb (fun h1 => ?_) (fun h1 => ?_)
    · refine nt_rn_b 5 (c' := (5, [(4, .int ((nI i) + 1)), (3, .int ((sp_ow (nt_I M (B + 12)) s q i) + 0)), (0, .ref B), (1, .int s), (2, .int q)], [], M)) rfl ?_
      refine nt_rn_w (a := [(4, .int (nI (i + 1))), (3, .int (sp_ow (nt_I M (B + 12)) s q (i + 1))), (0, .ref B), (1, .int s), (2, .int q)]) ⟨nt_eqi rfl (nI_1 i), nt_eqi rfl (by simp [sp_ow, nt_sm, nt_b, *]), rfl, rfl, rfl, trivial⟩ rfl ?_
      exact hki
    · refine nt_rn_b 3 (c' := (31, [(4, .int (nI i)), (3, .int (sp_ow (nt_I M (B + 12)) s q i)), (0, .ref B), (1, .int s), (2, .int q)], [.int 2, .int (nI i), .ref B, .int (sp_ow (nt_I M (B + 12)) s q i)], M)) rfl ?_
      refine nt_rn_c (g := 173) (q := 1) (vs := [.ref B, .int (nI i), .int 2]) (rest := [.int (sp_ow (nt_I M (B + 12)) s q i)]) (e := (31, .invokevirtual 264, 173, 0)) rfl rfl (Or.inr (Or.inl ⟨_, rfl, rfl⟩)) rfl (fun _ => nt_rcI (rf_b hM) (rf_kb hM)) (fun h => by cases h) (rm_plankOf X _ hM (nI i) (rfl) (by omega) 2 (by rw [show (2 : Int32) = nI 2 from rfl]) (by omega) ) ?_
      show nt_rn X _ 220 (34, [(4, .int (nI i)), (3, .int (sp_ow (nt_I M (B + 12)) s q i)), (0, .ref B), (1, .int s), (2, .int q)], [.int ((nt_I M (B + 12)) (52 + 5 * i + 2)), .int (sp_ow (nt_I M (B + 12)) s q i)], M) _
      refine nt_rn_b 2 (c' := (if ((nt_I M (B + 12)) (52 + 5 * i + 2)) = q then 38 else 42, [(4, .int (nI i)), (3, .int (sp_ow (nt_I M (B + 12)) s q i)), (0, .ref B), (1, .int s), (2, .int q)], [.int (sp_ow (nt_I M (B + 12)) s q i)], M)) rfl ?_
      refine nt_rn_if (fun h2 => ?_) (fun h2 => ?_)
      · refine nt_rn_b 6 (c' := (5, [(4, .int ((nI i) + 1)), (3, .int ((sp_ow (nt_I M (B + 12)) s q i) + 1)), (0, .ref B), (1, .int s), (2, .int q)], [], M)) rfl ?_
        refine nt_rn_w (a := [(4, .int (nI (i + 1))), (3, .int (sp_ow (nt_I M (B + 12)) s q (i + 1))), (0, .ref B), (1, .int s), (2, .int q)]) ⟨nt_eqi rfl (nI_1 i), nt_eqi rfl (by simp [sp_ow, nt_sm, nt_b, *]), rfl, rfl, rfl, trivial⟩ rfl ?_
        exact hki
      · refine nt_rn_b 5 (c' := (5, [(4, .int ((nI i) + 1)), (3, .int ((sp_ow (nt_I M (B + 12)) s q i) + 0)), (0, .ref B), (1, .int s), (2, .int q)], [], M)) rfl ?_
        refine nt_rn_w (a := [(4, .int (nI (i + 1))), (3, .int (sp_ow (nt_I M (B + 12)) s q (i + 1))), (0, .ref B), (1, .int s), (2, .int q)]) ⟨nt_eqi rfl (nI_1 i), nt_eqi rfl (by simp [sp_ow, nt_sm, nt_b, *]), rfl, rfl, rfl, trivial⟩ rfl ?_
        exact hki
theorem rm_notLost (X : nt_X) (d : Nat) {B : Nat} {M : nt_M} (hM : rf_sh B M) {K N P V : Nat} (hW : sp_wf K N P V (nt_I M (B + 12))) (k : Int32)  : nt_ev X (d + 1) 210 [.ref B, .int k] M (some (.int (sp_nl (nt_I M (B + 12)) k P)), M) := by
  obtain ⟨w0, w1, w2, w3, w4, w5, w6, w7, w8, w9⟩ := id hW
  show nt_rn X _ 210 (0, [(0, .ref B), (1, .int k)], [], M) _
  refine nt_rn_b 4 (c' := (4, [(3, .int 0), (2, .int 0), (0, .ref B), (1, .int k)], [], M)) rfl ?_
  refine nt_rn_w (a := [(3, .int (nI 0)), (2, .int (sp_nl (nt_I M (B + 12)) k 0)), (0, .ref B), (1, .int k)]) ⟨rfl, rfl, rfl, rfl, trivial⟩ rfl ?_
  refine nt_loop (fun i => (4, [(3, .int (nI i)), (2, .int (sp_nl (nt_I M (B + 12)) k i)), (0, .ref B), (1, .int k)], [], M)) P ?_ (fun i hi hki => ?_) P 0 (Nat.zero_add _)
  · show nt_rn X _ 210 (4, [(3, .int (nI P)), (2, .int (sp_nl (nt_I M (B + 12)) k P)), (0, .ref B), (1, .int k)], [], M) _
    refine nt_rn_b 2 (c' := (6, [(3, .int (nI P)), (2, .int (sp_nl (nt_I M (B + 12)) k P)), (0, .ref B), (1, .int k)], [.ref B, .int (nI P)], M)) rfl ?_
    refine nt_rn_s (e := (6, .getfield 45, 1127, 0)) rfl rfl (nt_x_get (c := 11) (v := .ref (B + 12)) (rf_b hM) (rf_kb hM) rfl (nt_gfR rfl (rf_r12 hM))) ?_
    refine nt_rn_b 1 (c' := (10, [(3, .int (nI P)), (2, .int (sp_nl (nt_I M (B + 12)) k P)), (0, .ref B), (1, .int k)], [.int 2, .ref (B + 12), .int (nI P)], M)) rfl ?_
    refine nt_rn_s (e := (10, .iaload, 0, 0)) rfl rfl (nt_x_iald (i := 2) (rf_n hM (k := 12) (by omega)) (rf_k12 hM) (rf_s hM) (by rw [show (2 : Int32) = nI 2 from rfl]) (by rw [show nt_l _ (B + 12) = _ from rf_l12 hM]; omega) (by show nt_l _ _ < 2147483648; rw [show nt_l _ (B + 12) = _ from rf_l12 hM]; omega)) ?_
    refine nt_rn_b 1 (c' := (if (nt_I M (B + 12) 2) ≤ (nI P) then 47 else 14, [(3, .int (nI P)), (2, .int (sp_nl (nt_I M (B + 12)) k P)), (0, .ref B), (1, .int k)], [], M)) rfl ?_
    refine nt_rn_t (by rw [w4]; exact nI_le (Nat.le_refl _) (by omega)) ?_
    refine nt_rn_b 1 (c' := (48, [(3, .int (nI P)), (2, .int (sp_nl (nt_I M (B + 12)) k P)), (0, .ref B), (1, .int k)], [.int (sp_nl (nt_I M (B + 12)) k P)], M)) rfl ?_
    exact nt_rn_ri (e := (48, .ireturn, 0, 0)) rfl rfl rfl (by rfl) (rfl)
  · show nt_rn X _ 210 (4, [(3, .int (nI i)), (2, .int (sp_nl (nt_I M (B + 12)) k i)), (0, .ref B), (1, .int k)], [], M) _
    refine nt_rn_b 2 (c' := (6, [(3, .int (nI i)), (2, .int (sp_nl (nt_I M (B + 12)) k i)), (0, .ref B), (1, .int k)], [.ref B, .int (nI i)], M)) rfl ?_
    refine nt_rn_s (e := (6, .getfield 45, 1127, 0)) rfl rfl (nt_x_get (c := 11) (v := .ref (B + 12)) (rf_b hM) (rf_kb hM) rfl (nt_gfR rfl (rf_r12 hM))) ?_
    refine nt_rn_b 1 (c' := (10, [(3, .int (nI i)), (2, .int (sp_nl (nt_I M (B + 12)) k i)), (0, .ref B), (1, .int k)], [.int 2, .ref (B + 12), .int (nI i)], M)) rfl ?_
    refine nt_rn_s (e := (10, .iaload, 0, 0)) rfl rfl (nt_x_iald (i := 2) (rf_n hM (k := 12) (by omega)) (rf_k12 hM) (rf_s hM) (by rw [show (2 : Int32) = nI 2 from rfl]) (by rw [show nt_l _ (B + 12) = _ from rf_l12 hM]; omega) (by show nt_l _ _ < 2147483648; rw [show nt_l _ (B + 12) = _ from rf_l12 hM]; omega)) ?_
    refine nt_rn_b 1 (c' := (if (nt_I M (B + 12) 2) ≤ (nI i) then 47 else 14, [(3, .int (nI i)), (2, .int (sp_nl (nt_I M (B + 12)) k i)), (0, .ref B), (1, .int k)], [], M)) rfl ?_
    refine nt_rn_f (by rw [w4]; exact nI_ge hi (by omega)) ?_
    refine nt_rn_b 4 (c' := (18, [(3, .int (nI i)), (2, .int (sp_nl (nt_I M (B + 12)) k i)), (0, .ref B), (1, .int k)], [.int 0, .int (nI i), .ref B, .int (sp_nl (nt_I M (B + 12)) k i)], M)) rfl ?_
    refine nt_rn_c (g := 173) (q := 1) (vs := [.ref B, .int (nI i), .int 0]) (rest := [.int (sp_nl (nt_I M (B + 12)) k i)]) (e := (18, .invokevirtual 264, 173, 0)) rfl rfl (Or.inr (Or.inl ⟨_, rfl, rfl⟩)) rfl (fun _ => nt_rcI (rf_b hM) (rf_kb hM)) (fun h => by cases h) (rm_plankOf X _ hM (nI i) (rfl) (by omega) 0 (by rw [show (0 : Int32) = nI 0 from rfl]) (by omega) ) ?_
    show nt_rn X _ 210 (21, [(3, .int (nI i)), (2, .int (sp_nl (nt_I M (B + 12)) k i)), (0, .ref B), (1, .int k)], [.int ((nt_I M (B + 12)) (52 + 5 * i)), .int (sp_nl (nt_I M (B + 12)) k i)], M) _
    refine nt_rn_b 2 (c' := (if ((nt_I M (B + 12)) (52 + 5 * i)) = k then 25 else 38, [(3, .int (nI i)), (2, .int (sp_nl (nt_I M (B + 12)) k i)), (0, .ref B), (1, .int k)], [.int (sp_nl (nt_I M (B + 12)) k i)], M)) rfl ?_
    refine nt_rn_if (fun h1 => ?_) (fun h1 => ?_)
    · refine nt_rn_b 3 (c' := (28, [(3, .int (nI i)), (2, .int (sp_nl (nt_I M (B + 12)) k i)), (0, .ref B), (1, .int k)], [.int 4, .int (nI i), .ref B, .int (sp_nl (nt_I M (B + 12)) k i)], M)) rfl ?_
      refine nt_rn_c (g := 173) (q := 1) (vs := [.ref B, .int (nI i), .int 4]) (rest := [.int (sp_nl (nt_I M (B + 12)) k i)]) (e := (28, .invokevirtual 264, 173, 0)) rfl rfl (Or.inr (Or.inl ⟨_, rfl, rfl⟩)) rfl (fun _ => nt_rcI (rf_b hM) (rf_kb hM)) (fun h => by cases h) (rm_plankOf X _ hM (nI i) (rfl) (by omega) 4 (by rw [show (4 : Int32) = nI 4 from rfl]) (by omega) ) ?_
      show nt_rn X _ 210 (31, [(3, .int (nI i)), (2, .int (sp_nl (nt_I M (B + 12)) k i)), (0, .ref B), (1, .int k)], [.int ((nt_I M (B + 12)) (52 + 5 * i + 4)), .int (sp_nl (nt_I M (B + 12)) k i)], M) _
      refine nt_rn_b 1 (c' := (if ((nt_I M (B + 12)) (52 + 5 * i + 4)) = 0 then 34 else 38, [(3, .int (nI i)), (2, .int (sp_nl (nt_I M (B + 12)) k i)), (0, .ref B), (1, .int k)], [.int (sp_nl (nt_I M (B + 12)) k i)], M)) rfl ?_
      refine nt_rn_if (fun h2 => ?_) (fun h2 => ?_)
      · refine nt_rn_b 6 (c' := (4, [(3, .int ((nI i) + 1)), (2, .int ((sp_nl (nt_I M (B + 12)) k i) + 1)), (0, .ref B), (1, .int k)], [], M)) rfl ?_
        refine nt_rn_w (a := [(3, .int (nI (i + 1))), (2, .int (sp_nl (nt_I M (B + 12)) k (i + 1))), (0, .ref B), (1, .int k)]) ⟨nt_eqi rfl (nI_1 i), nt_eqi rfl (by simp [sp_nl, nt_sm, nt_b, *]), rfl, rfl, trivial⟩ rfl ?_
        exact hki
      · refine nt_rn_b 5 (c' := (4, [(3, .int ((nI i) + 1)), (2, .int ((sp_nl (nt_I M (B + 12)) k i) + 0)), (0, .ref B), (1, .int k)], [], M)) rfl ?_
        refine nt_rn_w (a := [(3, .int (nI (i + 1))), (2, .int (sp_nl (nt_I M (B + 12)) k (i + 1))), (0, .ref B), (1, .int k)]) ⟨nt_eqi rfl (nI_1 i), nt_eqi rfl (by simp [sp_nl, nt_sm, nt_b, *]), rfl, rfl, trivial⟩ rfl ?_
        exact hki
    · refine nt_rn_b 5 (c' := (4, [(3, .int ((nI i) + 1)), (2, .int ((sp_nl (nt_I M (B + 12)) k i) + 0)), (0, .ref B), (1, .int k)], [], M)) rfl ?_
      refine nt_rn_w (a := [(3, .int (nI (i + 1))), (2, .int (sp_nl (nt_I M (B + 12)) k (i + 1))), (0, .ref B), (1, .int k)]) ⟨nt_eqi rfl (nI_1 i), nt_eqi rfl (by simp [sp_nl, nt_sm, nt_b, *]), rfl, rfl, trivial⟩ rfl ?_
      exact hki
theorem rm_isOn (X : nt_X) (d : Nat) {B : Nat} {M : nt_M} (hM : rf_sh B M) (set : Int32) (x : Int32) {v : Nat} (hx : x = nI v) (hv : v < 8) (day : Int32)  : nt_ev X (d + 1) 208 [.ref B, .int set, .int x, .int day] M (some (.int (nt_b (sp_on (nt_I M (B + 12)) set v day))), M) := by
  subst hx
  show nt_rn X _ 208 (0, [(0, .ref B), (1, .int set), (2, .int (nI v)), (3, .int day)], [], M) _
  refine nt_rn_b 2 (c' := (2, [(0, .ref B), (1, .int set), (2, .int (nI v)), (3, .int day)], [.int (nI v), .int set], M)) rfl ?_
  refine nt_rn_c (g := 209) (q := 0) (vs := [.int set, .int (nI v)]) (rest := []) (e := (2, .invokestatic 361, 209, 0)) rfl rfl (Or.inl ⟨_, rfl, rfl⟩) rfl (fun h => by cases h) (fun h => by cases h) (rm_isOf X _ _ set (nI v) ) ?_
  show nt_rn X _ 208 (5, [(0, .ref B), (1, .int set), (2, .int (nI v)), (3, .int day)], [.int (nt_b (decide ((set >>> ((nI v) &&& 31)) &&& 1 = 1)))], M) _
  refine nt_rn_b 1 (c' := (if (nt_b (decide ((set >>> ((nI v) &&& 31)) &&& 1 = 1))) = 0 then 32 else 8, [(0, .ref B), (1, .int set), (2, .int (nI v)), (3, .int day)], [], M)) rfl ?_
  refine nt_rn_ifb (fun h1 => ?_) (fun h1 => ?_)
  · refine nt_rn_b 1 (c' := (33, [(0, .ref B), (1, .int set), (2, .int (nI v)), (3, .int day)], [.int 0], M)) rfl ?_
    exact nt_rn_rz (e := (33, .ireturn, 0, 0)) rfl rfl rfl (Or.inl rfl) (by simp [nt_b, sp_on, *]) (rfl)
  · refine nt_rn_b 3 (c' := (11, [(0, .ref B), (1, .int set), (2, .int (nI v)), (3, .int day)], [.int 1, .int (nI v), .ref B], M)) rfl ?_
    refine nt_rn_c (g := 180) (q := 1) (vs := [.ref B, .int (nI v), .int 1]) (rest := []) (e := (11, .invokevirtual 299, 180, 0)) rfl rfl (Or.inr (Or.inl ⟨_, rfl, rfl⟩)) rfl (fun _ => nt_rcI (rf_b hM) (rf_kb hM)) (fun h => by cases h) (rm_voyageOf X _ hM (nI v) (rfl) (by omega) 1 (by rw [show (1 : Int32) = nI 1 from rfl]) (by omega) ) ?_
    show nt_rn X _ 208 (14, [(0, .ref B), (1, .int set), (2, .int (nI v)), (3, .int day)], [.int ((nt_I M (B + 12)) (172 + 5 * v + 1))], M) _
    refine nt_rn_b 2 (c' := (if day < ((nt_I M (B + 12)) (172 + 5 * v + 1)) then 32 else 18, [(0, .ref B), (1, .int set), (2, .int (nI v)), (3, .int day)], [], M)) rfl ?_
    refine nt_rn_if (fun h2 => ?_) (fun h2 => ?_)
    · refine nt_rn_b 1 (c' := (33, [(0, .ref B), (1, .int set), (2, .int (nI v)), (3, .int day)], [.int 0], M)) rfl ?_
      exact nt_rn_rz (e := (33, .ireturn, 0, 0)) rfl rfl rfl (Or.inl rfl) (by simp [nt_b, sp_on, *]) (rfl)
    · refine nt_rn_b 4 (c' := (22, [(0, .ref B), (1, .int set), (2, .int (nI v)), (3, .int day)], [.int 2, .int (nI v), .ref B, .int day], M)) rfl ?_
      refine nt_rn_c (g := 180) (q := 1) (vs := [.ref B, .int (nI v), .int 2]) (rest := [.int day]) (e := (22, .invokevirtual 299, 180, 0)) rfl rfl (Or.inr (Or.inl ⟨_, rfl, rfl⟩)) rfl (fun _ => nt_rcI (rf_b hM) (rf_kb hM)) (fun h => by cases h) (rm_voyageOf X _ hM (nI v) (rfl) (by omega) 2 (by rw [show (2 : Int32) = nI 2 from rfl]) (by omega) ) ?_
      show nt_rn X _ 208 (25, [(0, .ref B), (1, .int set), (2, .int (nI v)), (3, .int day)], [.int ((nt_I M (B + 12)) (172 + 5 * v + 2)), .int day], M) _
      refine nt_rn_b 1 (c' := (if ((nt_I M (B + 12)) (172 + 5 * v + 2)) ≤ day then 32 else 28, [(0, .ref B), (1, .int set), (2, .int (nI v)), (3, .int day)], [], M)) rfl ?_
      refine nt_rn_if (fun h3 => ?_) (fun h3 => ?_)
      · refine nt_rn_b 1 (c' := (33, [(0, .ref B), (1, .int set), (2, .int (nI v)), (3, .int day)], [.int 0], M)) rfl ?_
        exact nt_rn_rz (e := (33, .ireturn, 0, 0)) rfl rfl rfl (Or.inl rfl) (by simp [nt_b, sp_on, *]) (rfl)
      · refine nt_rn_b 2 (c' := (33, [(0, .ref B), (1, .int set), (2, .int (nI v)), (3, .int day)], [.int 1], M)) rfl ?_
        exact nt_rn_rz (e := (33, .ireturn, 0, 0)) rfl rfl rfl (Or.inr rfl) (by simp [nt_b, sp_on, *]) (rfl)
theorem rm_payOf (X : nt_X) (d : Nat) {B : Nat} {M : nt_M} (hM : rf_sh B M) {K N P V : Nat} (hW : sp_wf K N P V (nt_I M (B + 12))) (set : Int32)  : nt_ev X (d + 1) 213 [.ref B, .int set] M (some (.int (sp_po (nt_I M (B + 12)) set V)), M) := by
  obtain ⟨w0, w1, w2, w3, w4, w5, w6, w7, w8, w9⟩ := id hW
  show nt_rn X _ 213 (0, [(0, .ref B), (1, .int set)], [], M) _
  refine nt_rn_b 4 (c' := (4, [(3, .int 0), (2, .int 0), (0, .ref B), (1, .int set)], [], M)) rfl ?_
  refine nt_rn_w (a := [(3, .int (nI 0)), (2, .int (sp_po (nt_I M (B + 12)) set 0)), (0, .ref B), (1, .int set)]) ⟨rfl, rfl, rfl, rfl, trivial⟩ rfl ?_
  refine nt_loop (fun i => (4, [(3, .int (nI i)), (2, .int (sp_po (nt_I M (B + 12)) set i)), (0, .ref B), (1, .int set)], [], M)) V ?_ (fun i hi hki => ?_) V 0 (Nat.zero_add _)
  · show nt_rn X _ 213 (4, [(3, .int (nI V)), (2, .int (sp_po (nt_I M (B + 12)) set V)), (0, .ref B), (1, .int set)], [], M) _
    refine nt_rn_b 2 (c' := (6, [(3, .int (nI V)), (2, .int (sp_po (nt_I M (B + 12)) set V)), (0, .ref B), (1, .int set)], [.ref B, .int (nI V)], M)) rfl ?_
    refine nt_rn_s (e := (6, .getfield 45, 1127, 0)) rfl rfl (nt_x_get (c := 11) (v := .ref (B + 12)) (rf_b hM) (rf_kb hM) rfl (nt_gfR rfl (rf_r12 hM))) ?_
    refine nt_rn_b 1 (c' := (10, [(3, .int (nI V)), (2, .int (sp_po (nt_I M (B + 12)) set V)), (0, .ref B), (1, .int set)], [.int 3, .ref (B + 12), .int (nI V)], M)) rfl ?_
    refine nt_rn_s (e := (10, .iaload, 0, 0)) rfl rfl (nt_x_iald (i := 3) (rf_n hM (k := 12) (by omega)) (rf_k12 hM) (rf_s hM) (by rw [show (3 : Int32) = nI 3 from rfl]) (by rw [show nt_l _ (B + 12) = _ from rf_l12 hM]; omega) (by show nt_l _ _ < 2147483648; rw [show nt_l _ (B + 12) = _ from rf_l12 hM]; omega)) ?_
    refine nt_rn_b 1 (c' := (if (nt_I M (B + 12) 3) ≤ (nI V) then 41 else 14, [(3, .int (nI V)), (2, .int (sp_po (nt_I M (B + 12)) set V)), (0, .ref B), (1, .int set)], [], M)) rfl ?_
    refine nt_rn_t (by rw [w6]; exact nI_le (Nat.le_refl _) (by omega)) ?_
    refine nt_rn_b 1 (c' := (42, [(3, .int (nI V)), (2, .int (sp_po (nt_I M (B + 12)) set V)), (0, .ref B), (1, .int set)], [.int (sp_po (nt_I M (B + 12)) set V)], M)) rfl ?_
    exact nt_rn_ri (e := (42, .ireturn, 0, 0)) rfl rfl rfl (by rfl) (rfl)
  · show nt_rn X _ 213 (4, [(3, .int (nI i)), (2, .int (sp_po (nt_I M (B + 12)) set i)), (0, .ref B), (1, .int set)], [], M) _
    refine nt_rn_b 2 (c' := (6, [(3, .int (nI i)), (2, .int (sp_po (nt_I M (B + 12)) set i)), (0, .ref B), (1, .int set)], [.ref B, .int (nI i)], M)) rfl ?_
    refine nt_rn_s (e := (6, .getfield 45, 1127, 0)) rfl rfl (nt_x_get (c := 11) (v := .ref (B + 12)) (rf_b hM) (rf_kb hM) rfl (nt_gfR rfl (rf_r12 hM))) ?_
    refine nt_rn_b 1 (c' := (10, [(3, .int (nI i)), (2, .int (sp_po (nt_I M (B + 12)) set i)), (0, .ref B), (1, .int set)], [.int 3, .ref (B + 12), .int (nI i)], M)) rfl ?_
    refine nt_rn_s (e := (10, .iaload, 0, 0)) rfl rfl (nt_x_iald (i := 3) (rf_n hM (k := 12) (by omega)) (rf_k12 hM) (rf_s hM) (by rw [show (3 : Int32) = nI 3 from rfl]) (by rw [show nt_l _ (B + 12) = _ from rf_l12 hM]; omega) (by show nt_l _ _ < 2147483648; rw [show nt_l _ (B + 12) = _ from rf_l12 hM]; omega)) ?_
    refine nt_rn_b 1 (c' := (if (nt_I M (B + 12) 3) ≤ (nI i) then 41 else 14, [(3, .int (nI i)), (2, .int (sp_po (nt_I M (B + 12)) set i)), (0, .ref B), (1, .int set)], [], M)) rfl ?_
    refine nt_rn_f (by rw [w6]; exact nI_ge hi (by omega)) ?_
    refine nt_rn_b 3 (c' := (17, [(3, .int (nI i)), (2, .int (sp_po (nt_I M (B + 12)) set i)), (0, .ref B), (1, .int set)], [.int (nI i), .int set, .int (sp_po (nt_I M (B + 12)) set i)], M)) rfl ?_
    refine nt_rn_c (g := 209) (q := 0) (vs := [.int set, .int (nI i)]) (rest := [.int (sp_po (nt_I M (B + 12)) set i)]) (e := (17, .invokestatic 361, 209, 0)) rfl rfl (Or.inl ⟨_, rfl, rfl⟩) rfl (fun h => by cases h) (fun h => by cases h) (rm_isOf X _ _ set (nI i) ) ?_
    show nt_rn X _ 213 (20, [(3, .int (nI i)), (2, .int (sp_po (nt_I M (B + 12)) set i)), (0, .ref B), (1, .int set)], [.int (nt_b (decide ((set >>> ((nI i) &&& 31)) &&& 1 = 1))), .int (sp_po (nt_I M (B + 12)) set i)], M) _
    refine nt_rn_b 1 (c' := (if (nt_b (decide ((set >>> ((nI i) &&& 31)) &&& 1 = 1))) = 0 then 32 else 23, [(3, .int (nI i)), (2, .int (sp_po (nt_I M (B + 12)) set i)), (0, .ref B), (1, .int set)], [.int (sp_po (nt_I M (B + 12)) set i)], M)) rfl ?_
    refine nt_rn_ifb (fun h1 => ?_) (fun h1 => ?_)
    · refine nt_rn_b 5 (c' := (4, [(3, .int ((nI i) + 1)), (2, .int ((sp_po (nt_I M (B + 12)) set i) + 0)), (0, .ref B), (1, .int set)], [], M)) rfl ?_
      refine nt_rn_w (a := [(3, .int (nI (i + 1))), (2, .int (sp_po (nt_I M (B + 12)) set (i + 1))), (0, .ref B), (1, .int set)]) ⟨nt_eqi rfl (nI_1 i), nt_eqi rfl (by simp_all [sp_po, nt_sm, nt_b]), rfl, rfl, trivial⟩ rfl ?_
      exact hki
    · refine nt_rn_b 3 (c' := (26, [(3, .int (nI i)), (2, .int (sp_po (nt_I M (B + 12)) set i)), (0, .ref B), (1, .int set)], [.int 3, .int (nI i), .ref B, .int (sp_po (nt_I M (B + 12)) set i)], M)) rfl ?_
      refine nt_rn_c (g := 180) (q := 1) (vs := [.ref B, .int (nI i), .int 3]) (rest := [.int (sp_po (nt_I M (B + 12)) set i)]) (e := (26, .invokevirtual 299, 180, 0)) rfl rfl (Or.inr (Or.inl ⟨_, rfl, rfl⟩)) rfl (fun _ => nt_rcI (rf_b hM) (rf_kb hM)) (fun h => by cases h) (rm_voyageOf X _ hM (nI i) (rfl) (by omega) 3 (by rw [show (3 : Int32) = nI 3 from rfl]) (by omega) ) ?_
      show nt_rn X _ 213 (29, [(3, .int (nI i)), (2, .int (sp_po (nt_I M (B + 12)) set i)), (0, .ref B), (1, .int set)], [.int ((nt_I M (B + 12)) (172 + 5 * i + 3)), .int (sp_po (nt_I M (B + 12)) set i)], M) _
      refine nt_rn_b 5 (c' := (4, [(3, .int ((nI i) + 1)), (2, .int ((sp_po (nt_I M (B + 12)) set i) + ((nt_I M (B + 12)) (172 + 5 * i + 3)))), (0, .ref B), (1, .int set)], [], M)) rfl ?_
      refine nt_rn_w (a := [(3, .int (nI (i + 1))), (2, .int (sp_po (nt_I M (B + 12)) set (i + 1))), (0, .ref B), (1, .int set)]) ⟨nt_eqi rfl (nI_1 i), nt_eqi rfl (by simp_all [sp_po, nt_sm, nt_b]), rfl, rfl, trivial⟩ rfl ?_
      exact hki
theorem rm_mostIn (X : nt_X) (d : Nat) {B : Nat} {M : nt_M} (hM : rf_sh B M) {K N P V : Nat} (hW : sp_wf K N P V (nt_I M (B + 12))) (s : Int32)  : nt_ev X (d + 4) 219 [.ref B, .int s] M (some (.int ((sp_mi (nt_I M (B + 12)) P s N).1)), M) := by
  obtain ⟨w0, w1, w2, w3, w4, w5, w6, w7, w8, w9⟩ := id hW
  show nt_rn X _ 219 (0, [(0, .ref B), (1, .int s)], [], M) _
  refine nt_rn_b 6 (c' := (7, [(4, .int 0), (3, .int 0), (2, .int (-1)), (0, .ref B), (1, .int s)], [], M)) rfl ?_
  refine nt_rn_w (a := [(4, .int (nI 0)), (2, .int ((sp_mi (nt_I M (B + 12)) P s 0).1)), (3, .int ((sp_mi (nt_I M (B + 12)) P s 0).2)), (0, .ref B), (1, .int s)]) ⟨rfl, rfl, rfl, rfl, rfl, trivial⟩ rfl ?_
  refine nt_loop (fun i => (7, [(4, .int (nI i)), (2, .int ((sp_mi (nt_I M (B + 12)) P s i).1)), (3, .int ((sp_mi (nt_I M (B + 12)) P s i).2)), (0, .ref B), (1, .int s)], [], M)) N ?_ (fun i hi hki => ?_) N 0 (Nat.zero_add _)
  · show nt_rn X _ 219 (7, [(4, .int (nI N)), (2, .int ((sp_mi (nt_I M (B + 12)) P s N).1)), (3, .int ((sp_mi (nt_I M (B + 12)) P s N).2)), (0, .ref B), (1, .int s)], [], M) _
    refine nt_rn_b 2 (c' := (10, [(4, .int (nI N)), (2, .int ((sp_mi (nt_I M (B + 12)) P s N).1)), (3, .int ((sp_mi (nt_I M (B + 12)) P s N).2)), (0, .ref B), (1, .int s)], [.ref B, .int (nI N)], M)) rfl ?_
    refine nt_rn_s (e := (10, .getfield 45, 1127, 0)) rfl rfl (nt_x_get (c := 11) (v := .ref (B + 12)) (rf_b hM) (rf_kb hM) rfl (nt_gfR rfl (rf_r12 hM))) ?_
    refine nt_rn_b 1 (c' := (14, [(4, .int (nI N)), (2, .int ((sp_mi (nt_I M (B + 12)) P s N).1)), (3, .int ((sp_mi (nt_I M (B + 12)) P s N).2)), (0, .ref B), (1, .int s)], [.int 1, .ref (B + 12), .int (nI N)], M)) rfl ?_
    refine nt_rn_s (e := (14, .iaload, 0, 0)) rfl rfl (nt_x_iald (i := 1) (rf_n hM (k := 12) (by omega)) (rf_k12 hM) (rf_s hM) (by rw [show (1 : Int32) = nI 1 from rfl]) (by rw [show nt_l _ (B + 12) = _ from rf_l12 hM]; omega) (by show nt_l _ _ < 2147483648; rw [show nt_l _ (B + 12) = _ from rf_l12 hM]; omega)) ?_
    refine nt_rn_b 1 (c' := (if (nt_I M (B + 12) 1) ≤ (nI N) then 59 else 18, [(4, .int (nI N)), (2, .int ((sp_mi (nt_I M (B + 12)) P s N).1)), (3, .int ((sp_mi (nt_I M (B + 12)) P s N).2)), (0, .ref B), (1, .int s)], [], M)) rfl ?_
    refine nt_rn_t (by rw [w2]; exact nI_le (Nat.le_refl _) (by omega)) ?_
    refine nt_rn_b 1 (c' := (60, [(4, .int (nI N)), (2, .int ((sp_mi (nt_I M (B + 12)) P s N).1)), (3, .int ((sp_mi (nt_I M (B + 12)) P s N).2)), (0, .ref B), (1, .int s)], [.int ((sp_mi (nt_I M (B + 12)) P s N).1)], M)) rfl ?_
    exact nt_rn_ri (e := (60, .ireturn, 0, 0)) rfl rfl rfl (by rfl) (rfl)
  · show nt_rn X _ 219 (7, [(4, .int (nI i)), (2, .int ((sp_mi (nt_I M (B + 12)) P s i).1)), (3, .int ((sp_mi (nt_I M (B + 12)) P s i).2)), (0, .ref B), (1, .int s)], [], M) _
    refine nt_rn_b 2 (c' := (10, [(4, .int (nI i)), (2, .int ((sp_mi (nt_I M (B + 12)) P s i).1)), (3, .int ((sp_mi (nt_I M (B + 12)) P s i).2)), (0, .ref B), (1, .int s)], [.ref B, .int (nI i)], M)) rfl ?_
    refine nt_rn_s (e := (10, .getfield 45, 1127, 0)) rfl rfl (nt_x_get (c := 11) (v := .ref (B + 12)) (rf_b hM) (rf_kb hM) rfl (nt_gfR rfl (rf_r12 hM))) ?_
    refine nt_rn_b 1 (c' := (14, [(4, .int (nI i)), (2, .int ((sp_mi (nt_I M (B + 12)) P s i).1)), (3, .int ((sp_mi (nt_I M (B + 12)) P s i).2)), (0, .ref B), (1, .int s)], [.int 1, .ref (B + 12), .int (nI i)], M)) rfl ?_
    refine nt_rn_s (e := (14, .iaload, 0, 0)) rfl rfl (nt_x_iald (i := 1) (rf_n hM (k := 12) (by omega)) (rf_k12 hM) (rf_s hM) (by rw [show (1 : Int32) = nI 1 from rfl]) (by rw [show nt_l _ (B + 12) = _ from rf_l12 hM]; omega) (by show nt_l _ _ < 2147483648; rw [show nt_l _ (B + 12) = _ from rf_l12 hM]; omega)) ?_
    refine nt_rn_b 1 (c' := (if (nt_I M (B + 12) 1) ≤ (nI i) then 59 else 18, [(4, .int (nI i)), (2, .int ((sp_mi (nt_I M (B + 12)) P s i).1)), (3, .int ((sp_mi (nt_I M (B + 12)) P s i).2)), (0, .ref B), (1, .int s)], [], M)) rfl ?_
    refine nt_rn_f (by rw [w2]; exact nI_ge hi (by omega)) ?_
    refine nt_rn_b 3 (c' := (22, [(4, .int (nI i)), (2, .int ((sp_mi (nt_I M (B + 12)) P s i).1)), (3, .int ((sp_mi (nt_I M (B + 12)) P s i).2)), (0, .ref B), (1, .int s)], [.int (nI i), .int s, .ref B], M)) rfl ?_
    refine nt_rn_c (g := 220) (q := 1) (vs := [.ref B, .int s, .int (nI i)]) (rest := []) (e := (22, .invokevirtual 389, 220, 0)) rfl rfl (Or.inr (Or.inl ⟨_, rfl, rfl⟩)) rfl (fun _ => nt_rcI (rf_b hM) (rf_kb hM)) (fun h => by cases h) (rm_ofOwner X _ hM hW s (nI i) ) ?_
    show nt_rn X _ 219 (25, [(4, .int (nI i)), (2, .int ((sp_mi (nt_I M (B + 12)) P s i).1)), (3, .int ((sp_mi (nt_I M (B + 12)) P s i).2)), (0, .ref B), (1, .int s)], [.int (sp_ow (nt_I M (B + 12)) s (nI i) P)], M) _
    refine nt_rn_b 4 (c' := (if (sp_ow (nt_I M (B + 12)) s (nI i) P) ≤ ((sp_mi (nt_I M (B + 12)) P s i).2) then 38 else 33, [(5, .int (sp_ow (nt_I M (B + 12)) s (nI i) P)), (4, .int (nI i)), (2, .int ((sp_mi (nt_I M (B + 12)) P s i).1)), (3, .int ((sp_mi (nt_I M (B + 12)) P s i).2)), (0, .ref B), (1, .int s)], [], M)) rfl ?_
    refine nt_rn_if (fun h1 => ?_) (fun h1 => ?_)
    · refine nt_rn_b 5 (c' := (if (sp_ow (nt_I M (B + 12)) s (nI i) P) ≤ ((sp_mi (nt_I M (B + 12)) P s i).2) then 51 else 46, [(2, .int ((sp_mi (nt_I M (B + 12)) P s i).1)), (5, .int (sp_ow (nt_I M (B + 12)) s (nI i) P)), (4, .int (nI i)), (3, .int ((sp_mi (nt_I M (B + 12)) P s i).2)), (0, .ref B), (1, .int s)], [], M)) rfl ?_
      refine nt_rn_t (h1) ?_
      refine nt_rn_b 4 (c' := (7, [(4, .int ((nI i) + 1)), (3, .int ((sp_mi (nt_I M (B + 12)) P s i).2)), (2, .int ((sp_mi (nt_I M (B + 12)) P s i).1)), (5, .int (sp_ow (nt_I M (B + 12)) s (nI i) P)), (0, .ref B), (1, .int s)], [], M)) rfl ?_
      refine nt_rn_w (a := [(4, .int (nI (i + 1))), (2, .int ((sp_mi (nt_I M (B + 12)) P s (i + 1)).1)), (3, .int ((sp_mi (nt_I M (B + 12)) P s (i + 1)).2)), (0, .ref B), (1, .int s)]) ⟨nt_eqi rfl (nI_1 i), nt_eqi rfl (by simp [sp_mi, *]), nt_eqi rfl (by simp [sp_mi, *]), rfl, rfl, trivial⟩ rfl ?_
      exact hki
    · refine nt_rn_b 6 (c' := (if (sp_ow (nt_I M (B + 12)) s (nI i) P) ≤ ((sp_mi (nt_I M (B + 12)) P s i).2) then 51 else 46, [(2, .int (nI i)), (5, .int (sp_ow (nt_I M (B + 12)) s (nI i) P)), (4, .int (nI i)), (3, .int ((sp_mi (nt_I M (B + 12)) P s i).2)), (0, .ref B), (1, .int s)], [], M)) rfl ?_
      refine nt_rn_f (h1) ?_
      refine nt_rn_b 5 (c' := (7, [(4, .int ((nI i) + 1)), (3, .int (sp_ow (nt_I M (B + 12)) s (nI i) P)), (2, .int (nI i)), (5, .int (sp_ow (nt_I M (B + 12)) s (nI i) P)), (0, .ref B), (1, .int s)], [], M)) rfl ?_
      refine nt_rn_w (a := [(4, .int (nI (i + 1))), (2, .int ((sp_mi (nt_I M (B + 12)) P s (i + 1)).1)), (3, .int ((sp_mi (nt_I M (B + 12)) P s (i + 1)).2)), (0, .ref B), (1, .int s)]) ⟨nt_eqi rfl (nI_1 i), nt_eqi rfl (by simp [sp_mi, *]), nt_eqi rfl (by simp [sp_mi, *]), rfl, rfl, trivial⟩ rfl ?_
      exact hki
