/-! the check once more: states that a run by hand turns into others -/
def sx_imp3 (X : nt_X) (T : List sx_T × List (List Nat)) (K : sx_K) (hs hi : List (sx_A × sx_L)) : Prop := ∀ (F : sx_F), F.2.2.2 = sx_GG T → ∀ H ∈ hi, ∀ (r : Nat → Int) (c : nt_C) (d : Nat), K.2.1 ≤ d → sx_ok (sx_KE T K) F r H.1 c → ∃ H' ∈ hs ++ hi, ∃ (r' : Nat → Int) (c' : nt_C), (∀ o, nt_rn X d K.1 c' o → nt_rn X d K.1 c o) ∧ sx_ok (sx_KE T K) F r' H'.1 c' ∧ sx_e r' H'.2 + 1 ≤ sx_e r H.2
theorem sx_loops3 {X : nt_X} {T : List sx_T × List (List Nat)} {Ks : List sx_K} {K : sx_K} {hs hi : List (sx_A × sx_L)} {f d : Nat} {F : sx_F} (hG : F.2.2.2 = sx_GG T) (hK : ∀ K' ∈ Ks, sx_KOK X T K') (hr : (hs ++ hi).all (sx_cr K) = true) (h : hs.all (sx_c1 T Ks K (hs ++ hi) f) = true) (him : sx_imp3 X T K hs hi) (hd : K.2.1 ≤ d) : ∀ (n : Nat) (H : sx_A × sx_L) (rh : Nat → Int) (c : nt_C), H ∈ hs ++ hi → sx_ok (sx_KE T K) F rh H.1 c → sx_e rh H.2 < (n : Int) → sx_W X d K.1 (fun o => ∃ p ∈ K.2.2.2.2.2.2, ∃ r', sx_ov F.1 r' p.1 o.1 ∧ sx_on (sx_KE T K) F r' p.2 o.2) c
  | 0, H, rh, c, hH, hok, hn => by
    have l := List.all_eq_true.mp hr H hH
    unfold sx_cr at l
    rw [Bool.and_eq_true] at l
    have := sx_p_ok hok.2.2.2 l.1
    omega
  | n + 1, H, rh, c, hH, hok, hn => by
    have lr := List.all_eq_true.mp hr H hH
    unfold sx_cr at lr
    rw [Bool.and_eq_true, Bool.and_eq_true] at lr
    obtain ⟨l1, l2, l3⟩ := lr
    have l3 : K.2.2.2.2.2.1.2.2.2 ≤ H.1.2.2.2.2.2.2 := Nat.le_of_ble_eq_true l3
    rcases List.mem_append.mp hH with hH1 | hH1
    · have l4 := List.all_eq_true.mp h H hH1
      unfold sx_c1 at l4
      split at l4
      · rename_i G hGo
        obtain ⟨y0, y1, y2, y3, y4, y5, y6⟩ := hok.2.2.2
        refine sx_go_ok X Ks f _ _ _ _ _ _ _ hGo (F.1, F.2.1, rh, F.2.2.2) rh c d _ hG hK hd ⟨hok.1, hok.2.1, hok.2.2.1, y0, y1, y2, y3, y4, fun _ _ => rfl, y6⟩ (fun A' hA' r' c' hok' => ?_) (fun o ho r' out hov hon => ?_)
        · have z := List.all_eq_true.mp l4 _ hA'
          obtain ⟨H', hH', z⟩ := List.any_eq_true.mp z
          obtain ⟨r2, r1, w1, w2, w3⟩ := sx_hm_ok (E := sx_KE T K) (F := F) (r0 := rh) z l3 rfl (fun s hs => y5 s hs) hok'
          have w3 := w3 _ rfl
          rw [sx_e_up w2 l2] at w3
          exact sx_loops3 hG hK hr h him hd n H' r2 c' hH' w1 (by omega)
        · have z := List.all_eq_true.mp l4 _ ho
          obtain ⟨p, hp, z⟩ := List.any_eq_true.mp z
          obtain ⟨r2, w1, w2⟩ := sx_pm_ok (E := sx_KE T K) (F := F) (r0 := rh) z l3 rfl (fun s hs => y5 s hs) hov hon
          exact ⟨p, hp, r2, w1, w2⟩
      · cases l4
    · obtain ⟨H', hH', r', c', w0, w1, w2⟩ := him F hG H hH1 rh c d hd hok
      obtain ⟨o, k1, k2⟩ := sx_loops3 hG hK hr h him hd n H' r' c' hH' w1 (by omega)
      exact ⟨o, w0 o k1, k2⟩
/-- THE CHECK: the method keeps its contract -/
theorem sx_keeps3 {X : nt_X} {T : List sx_T × List (List Nat)} {Ks : List sx_K} {K : sx_K} {hs hi : List (sx_A × sx_L)} {f : Nat} (hK : ∀ K' ∈ Ks, sx_KOK X T K') (him : sx_imp3 X T K hs hi) (h : sx_chk2 T Ks K hs hi f = true) : sx_KOK X T K := by
  intro F r vs M d hd hM hr hG hargs hon
  unfold sx_chk2 at h
  rw [Bool.and_eq_true, Bool.and_eq_true] at h
  obtain ⟨h0, h1, h2⟩ := h
  unfold sx_c0 at h0
  split at h0
  · rename_i G hGo
    have hF : (F.1, F.2.1, r, F.2.2.2) = F := by rw [← hr]
    have key := sx_go_ok X Ks f _ _ _ _ _ _ _ hGo F r (0, lv_args 0 vs, [], M) d (fun o => ∃ p ∈ K.2.2.2.2.2.2, ∃ r', sx_ov F.1 r' p.1 o.1 ∧ sx_on (sx_KE T K) F r' p.2 o.2) hG hK hd ⟨rfl, sx_args_ok 0 hargs, trivial, hon⟩ (fun A' hA' r' c' hok' => ?_) (fun o ho r' out hov hon' => ?_)
    · obtain ⟨o, k1, k2⟩ := key
      exact ⟨o, k1, k2⟩
    · have z := List.all_eq_true.mp h0 _ hA'
      obtain ⟨H', hH', z⟩ := List.any_eq_true.mp z
      obtain ⟨r2, r1, w1, w2, w3⟩ := sx_hm_ok (E := sx_KE T K) (F := F) (r0 := r) (n1 := K.2.2.2.2.2.1.2.2.2) z (Nat.le_refl _) rfl (fun s _ => by rw [hr]) (by rw [hF]; exact hok')
      exact sx_loops3 hG hK h1 h2 him hd ((sx_e r2 H'.2).toNat + 1) H' r2 c' hH' w1 (by omega)
    · have z := List.all_eq_true.mp h0 _ ho
      obtain ⟨p, hp, z⟩ := List.any_eq_true.mp z
      obtain ⟨r2, w1, w2⟩ := sx_pm_ok (E := sx_KE T K) (F := F) (r0 := r) (n1 := K.2.2.2.2.2.1.2.2.2) z (Nat.le_refl _) rfl (fun s _ => by rw [hr]) hov (by rw [hF]; exact hon')
      exact ⟨p, hp, r2, w1, w2⟩
  · cases h0
