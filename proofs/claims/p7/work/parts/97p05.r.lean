/-! homecoming: both sides do the same events, in another order -/
/-- how many of the first planks are sound, in this ship, and of this kind -/
def zk (e : Nat → Int32) (s : Int32) (P : Int32 → Prop) [DecidablePred P] : Nat → Int32
  | 0 => 0
  | n + 1 => zk e s P n + (if e (52 + 5 * n + 3) = s then if e (52 + 5 * n + 1) ≤ 0 then 0 else if P (e (52 + 5 * n + 2)) then 1 else 0 else 0)
def zpl (e f : Nat → Int32) : Prop := ∀ n, n < 24 → f (52 + 5 * n + 1) = e (52 + 5 * n + 1) ∧ f (52 + 5 * n + 2) = e (52 + 5 * n + 2) ∧ f (52 + 5 * n + 3) = e (52 + 5 * n + 3)
theorem zk_ag {e f : Nat → Int32} {s : Int32} {P : Int32 → Prop} [DecidablePred P] (h : zpl e f) : ∀ n, n ≤ 24 → zk f s P n = zk e s P n := by
  intro n
  induction n with
  | zero => intro _; rfl
  | succ n ih =>
    intro hn
    rw [zk, zk, ih (by omega), (h n (by omega)).1, (h n (by omega)).2.1, (h n (by omega)).2.2]
/-- the class counts so -/
theorem zk_75l {q : Nat → Nat} {J : Nat → Nat → Int32} {e : Nat → Int32} {s o : Int32} (hR : zR q J e) (hW : xr_W e) : ∀ (c : Nat) (a i : Int32), 0 ≤ i.toInt → i.toInt ≤ (e 2).toInt → (e 2).toInt - i.toInt ≤ c → x75_5 q s o J c a i + zk e s (fun x => x = o) i.toNatClampNeg = a + zk e s (fun x => x = o) (zn e 2) := by
  have bb := zn_b hW
  intro c
  induction c with
  | zero =>
    intro a i h h2 hc
    rw [x75_5, show i.toNatClampNeg = zn e 2 from by rw [zn_t]; omega]
  | succ c ih =>
    intro a i h h2 hc
    rw [x75_5, zR_n hR (by omega)]
    by_cases h1 : e 2 ≤ i
    · rw [if_pos h1, show i.toNatClampNeg = zn e 2 from by rw [zn_t]; have := z_ge.mp h1; omega]
    · rw [if_neg h1]
      have x := zx bb.2.2.2.2.2.2.1 h h1
      have l : i.toNatClampNeg < 24 := by omega
      have st := fun a => ih a (i + Int32.ofInt 1) (zi_i h1 h) (by rw [lx_inc h1]; have := z_lt h1; omega) (lx_dec h1 hc)
      rw [zx_i h1 h] at st
      rw [zk] at st
      rw [zR_p hR x.1 l (by omega) (zc_p3 _ l), zR_p hR x.1 l (by omega) (zc_p1 _ l), zR_p hR x.1 l (by omega) (zc_p2 _ l)]
      by_cases h3 : e (52 + 5 * i.toNatClampNeg + 3) = s
      · rw [if_pos h3]
        simp only [if_pos h3] at st
        by_cases h4 : e (52 + 5 * i.toNatClampNeg + 1) ≤ 0
        · rw [if_pos h4]
          simp only [if_pos h4] at st
          have := st a
          grind
        · rw [if_neg h4]
          simp only [if_neg h4] at st
          by_cases h5 : e (52 + 5 * i.toNatClampNeg + 2) = o
          · rw [if_pos h5]
            simp only [if_pos h5] at st
            have := st (a + Int32.ofInt 1)
            rw [show Int32.ofInt 1 = 1 from rfl] at this ⊢
            grind
          · rw [if_neg h5]
            simp only [if_neg h5] at st
            have := st a
            grind
      · rw [if_neg h3]
        simp only [if_neg h3] at st
        have := st a
        grind
theorem zk_75 {q : Nat → Nat} {J : Nat → Nat → Int32} {e : Nat → Int32} {s o : Int32} (hR : zR q J e) (hW : xr_W e) : x75 q s o J = zk e s (fun x => x = o) (zn e 2) := by
  unfold x75
  have b := xr_2 hW
  have := zk_75l (s := s) (o := o) hR hW (e 2).toNatClampNeg (Int32.ofInt 0) (Int32.ofInt 0) (by decide) (by rw [show (Int32.ofInt 0).toInt = 0 from by decide]; omega) (lx_beg (by decide))
  rw [show (Int32.ofInt 0).toNatClampNeg = 0 from rfl, show zk e s (fun x => x = o) 0 = 0 from rfl, show Int32.ofInt 0 = 0 from rfl] at this
  rw [zR_n hR (by omega), show Int32.ofInt 0 = 0 from rfl]
  grind
/-- sums over owners -/
def zsm (f : Nat → Int32) : Nat → Int32
  | 0 => 0
  | n + 1 => zsm f n + f n
theorem zsm_add {f g : Nat → Int32} : ∀ n, zsm (fun i => f i + g i) n = zsm f n + zsm g n := by
  intro n
  induction n with
  | zero => rfl
  | succ n ih =>
    rw [zsm, zsm, zsm, ih]
    grind
theorem zsm_0 {f : Nat → Int32} : ∀ n, (∀ i, i < n → f i = 0) → zsm f n = 0 := by
  intro n
  induction n with
  | zero => intro _; rfl
  | succ n ih =>
    intro h
    rw [zsm, ih (fun i hi => h i (by omega)), h n (by omega)]
    rfl
theorem zsm_1 {f : Nat → Int32} {k : Nat} : ∀ n, k < n → (∀ i, i < n → i ≠ k → f i = 0) → zsm f n = f k := by
  intro n
  induction n with
  | zero => intro h; omega
  | succ n ih =>
    intro h g
    rw [zsm]
    by_cases e : k = n
    · rw [zsm_0 n (fun i hi => g i (by omega) (by omega)), e]
      grind
    · rw [ih (by omega) (fun i hi => g i (by omega)), g n (by omega) (by omega)]
      grind
theorem zi_n {x : Int32} {n : Nat} (hn : n < 1000) : x = Int32.ofInt (n : Int) ↔ x.toInt = n := by
  constructor
  · intro h
    rw [h, xi_k hn]
  · intro h
    apply Int32.toInt_inj.mp
    rw [h, xi_k hn]
/-- every plank is somebody's -/
theorem zk_sm {e : Nat → Int32} {s : Int32} (hA : zA e) (hW : xr_W e) : ∀ n, n ≤ zn e 2 → zsm (fun o => zk e s (fun x => x = Int32.ofInt (o : Int)) n) (zn e 1) = zk e s (fun _ => True) n := by
  have bb := zn_b hW
  intro n
  induction n with
  | zero =>
    intro _
    exact zsm_0 _ (fun i hi => rfl)
  | succ n ih =>
    intro hn
    have e1 := zsm_add (f := fun o => zk e s (fun x => x = Int32.ofInt (o : Int)) n) (g := fun (o : Nat) => (if e (52 + 5 * n + 3) = s then if e (52 + 5 * n + 1) ≤ 0 then 0 else if e (52 + 5 * n + 2) = Int32.ofInt (o : Int) then 1 else 0 else 0 : Int32)) (zn e 1)
    rw [show (fun (o : Nat) => zk e s (fun x => x = Int32.ofInt (o : Int)) (n + 1)) = (fun (o : Nat) => zk e s (fun x => x = Int32.ofInt (o : Int)) n + (if e (52 + 5 * n + 3) = s then if e (52 + 5 * n + 1) ≤ 0 then 0 else if e (52 + 5 * n + 2) = Int32.ofInt (o : Int) then 1 else 0 else 0 : Int32)) from rfl, e1, ih (by omega), zk]
    congr 1
    have ow := hA.ow n (by omega)
    by_cases h3 : e (52 + 5 * n + 3) = s
    · simp only [if_pos h3]
      by_cases h4 : e (52 + 5 * n + 1) ≤ 0
      · simp only [if_pos h4]
        exact zsm_0 _ (fun _ _ => rfl)
      · simp only [if_neg h4]
        have hk : (e (52 + 5 * n + 2)).toInt = (e (52 + 5 * n + 2)).toNatClampNeg := by
          rw [zn_t]
          omega
        have k6 : (e (52 + 5 * n + 2)).toNatClampNeg < zn e 1 := by omega
        rw [zsm_1 (k := (e (52 + 5 * n + 2)).toNatClampNeg) _ k6 (fun i hi ni => if_neg (fun c => ni (by
          have := (zi_n (by omega)).mp c
          omega))), if_pos ((zi_n (by omega)).mpr hk), if_pos trivial]
    · simp only [if_neg h3]
      exact zsm_0 _ (fun _ _ => rfl)
/-- an event: ship s is home from voyage v, owner o has g o more, the yard y -/
def zE (g : Nat → Int32) (y : Int32) (s v : Nat) (e : Nat → Int32) : Nat → Int32 := fun j =>
  if j = 10 + 7 * s + 4 then 0 else if j = 10 + 7 * s + 5 then Int32.ofInt (-1) else if j = 172 + 5 * v + 4 then 2 else if j = 7 then e j + y else if 10 ≤ j ∧ j < 52 ∧ (j - 10) % 7 = 6 then e j + g ((j - 10) / 7) else e j
theorem zE_comm {g g' : Nat → Int32} {y y' : Int32} {s s' v v' : Nat} {e : Nat → Int32} (hs : s < 6) (hs' : s' < 6) (hv : v < 8) (hv' : v' < 8) : zE g y s v (zE g' y' s' v' e) = zE g' y' s' v' (zE g y s v e) := by
  funext j
  unfold zE
  by_cases a1 : j = 10 + 7 * s + 4
  · by_cases b1 : j = 10 + 7 * s' + 4
    · rw [if_pos a1, if_pos b1]
    · rw [if_pos a1, if_neg b1, if_neg (by omega), if_neg (by omega), if_neg (by omega), if_neg (by omega), if_pos a1]
  · rw [if_neg a1, if_neg a1]
    by_cases a2 : j = 10 + 7 * s + 5
    · rw [if_pos a2, if_pos a2, if_neg (by omega)]
      by_cases b2 : j = 10 + 7 * s' + 5
      · rw [if_pos b2]
      · rw [if_neg b2, if_neg (by omega), if_neg (by omega), if_neg (by omega)]
    · rw [if_neg a2, if_neg a2]
      by_cases a3 : j = 172 + 5 * v + 4
      · rw [if_pos a3, if_pos a3, if_neg (by omega), if_neg (by omega)]
        by_cases b3 : j = 172 + 5 * v' + 4
        · rw [if_pos b3]
        · rw [if_neg b3, if_neg (by omega), if_neg (by omega)]
      · rw [if_neg a3, if_neg a3]
        by_cases b1 : j = 10 + 7 * s' + 4
        · rw [if_pos b1, if_neg (by omega), if_neg (by omega), if_pos b1]
        · rw [if_neg b1, if_neg b1]
          by_cases b2 : j = 10 + 7 * s' + 5
          · rw [if_pos b2, if_neg (by omega), if_neg (by omega), if_pos b2]
          · rw [if_neg b2, if_neg b2]
            by_cases b3 : j = 172 + 5 * v' + 4
            · rw [if_pos b3, if_neg (by omega), if_neg (by omega), if_pos b3]
            · rw [if_neg b3, if_neg b3]
              by_cases b4 : j = 7
              · simp only [if_pos b4]
                grind
              · simp only [if_neg b4]
                by_cases b5 : 10 ≤ j ∧ j < 52 ∧ (j - 10) % 7 = 6
                · simp only [if_pos b5]
                  grind
                · simp only [if_neg b5]
/-- what owners get -/
def zgn (e : Nat → Int32) (s : Int32) (pay part : Int32) (o : Nat) : Int32 := part * zk e s (fun x => x = Int32.ofInt (o : Int)) (zn e 2) + (if Int32.ofInt (o : Int) = s then pay - part * zk e s (fun _ => True) (zn e 2) else 0)
theorem zgn_ag {e f : Nat → Int32} {s pay part : Int32} (w : xr_W e) (h2 : f 2 = e 2) (h : zpl e f) : zgn f s pay part = zgn e s pay part := by
  have bb := zn_b w
  funext o
  unfold zgn
  rw [zn_ag h2, zk_ag h _ (by omega), zk_ag h _ (by omega)]
