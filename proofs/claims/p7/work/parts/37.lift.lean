/-! contracts without ghosts serve where there are ghosts, too -/
def sx_ng (N : sx_N) : Bool := N.1.all (fun q => Nat.blt q.1.1 100)
theorem sx_rd_ng {F F' : sx_F} {M : nt_M} {g : Nat} {i : Int} (hp : F.1 = F'.1) (h : g < 100) : sx_rd F M g i = sx_rd F' M g i := by
  unfold sx_rd
  have n : ¬ 100 ≤ g := by omega
  rw [if_neg n, if_neg n, hp]
theorem sx_on_ng {E E' : sx_E} {F F' : sx_F} {r : Nat → Int} {N : sx_N} {M : nt_M} (hn : sx_ng N = true) (hT : E.1.1 = E'.1.1) (hE : E.2 = E'.2) (hp : F.1 = F'.1) (hM : F.2.1 = F'.2.1) (hr : F.2.2.1 = F'.2.2.1) (hg : sx_gh E' F') (h : sx_on E F r N M) : sx_on E' F' r N M := by
  obtain ⟨a0, a1, a2, a3, a4, a5, a6⟩ := h
  refine ⟨⟨hg, ?_⟩, ?_, fun q hq => ?_, ?_, a4, ?_, ?_⟩
  · have := a0.2
    unfold sx_ij at this ⊢
    rw [← hE, ← hp]
    exact this
  · unfold sx_hp at a1 ⊢
    rw [← hE, ← hp, ← hT]
    exact a1
  · obtain ⟨b1, b2⟩ := a2 q hq
    have h100 : q.1.1 < 100 := Nat.blt_eq.mp (List.all_eq_true.mp hn q hq)
    refine ⟨by rw [← hE]; exact b1, ?_⟩
    rw [← sx_rd_ng hp h100]
    exact b2
  · unfold sx_or at a3 ⊢
    rw [← hE, ← hp]
    exact a3
  · rw [← hE, ← hr]; exact a5
  · unfold sx_fm at a6 ⊢
    rw [← hE, ← hp, ← hM]
    exact a6
theorem sx_lift {X : nt_X} {T : List sx_T} {G : List (List Nat)} {K : sx_K} (hn : (sx_ng K.2.2.2.2.2.1 && K.2.2.2.2.2.2.all (fun p => sx_ng p.2)) = true) (h : sx_KOK X (T, []) K) : sx_KOK X (T, G) K := by
  rw [Bool.and_eq_true] at hn
  intro F r vs M d hd hM hr hG hargs hon
  obtain ⟨o, h1, p, hp, r', h2, h3⟩ := h (F.1, F.2.1, F.2.2.1, fun _ _ _ => 0) r vs M d hd hM hr rfl hargs (sx_on_ng (E := sx_KE (T, G) K) (E' := sx_KE (T, []) K) (F := F) hn.1 rfl rfl rfl rfl rfl (fun _ _ _ _ _ => rfl) hon)
  exact ⟨o, h1, p, hp, r', h2, sx_on_ng (E := sx_KE (T, []) K) (E' := sx_KE (T, G) K) (F := (F.1, F.2.1, F.2.2.1, fun _ _ _ => 0)) (F' := F) (List.all_eq_true.mp hn.2 p hp) rfl rfl rfl rfl rfl hon.1.1 h3⟩
