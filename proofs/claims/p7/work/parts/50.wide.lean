/-! a contract over more regions -/
def sx_wkc (T : List sx_T × List (List Nat)) (K K' : sx_K) : Bool := Nat.beq K.1 K'.1 && (Nat.ble K.2.1 K'.2.1 && (match sx_kc (sx_KE T K') K [] K'.2.2.2.2.1.reverse K'.2.2.2.2.1 K'.2.2.2.2.2.1 with
  | some o => K.2.2.2.2.2.2.all (fun p => sx_de (sx_pst (sx_KE T K') K.2.2.2.1.1 K.2.2.2.1.2 K.2.2.2.2.2.1.2.2.2 (sx_gf o.1.1) (sx_zf o.1.2) o.2 p.2) || K'.2.2.2.2.2.2.any (fun p' => sx_pm (sx_KE T K') K'.2.2.2.2.2.1.2.2.2 (p.1.map (sx_mV (sx_gf o.1.1) (sx_zq (sx_zf o.1.2) K.2.2.2.2.2.1.2.2.2 o.2.2.2.2))) (sx_pst (sx_KE T K') K.2.2.2.1.1 K.2.2.2.1.2 K.2.2.2.2.2.1.2.2.2 (sx_gf o.1.1) (sx_zf o.1.2) o.2 p.2) p'))
  | none => false))
theorem sx_wk {X : nt_X} {T : List sx_T × List (List Nat)} {K K' : sx_K} (hK : sx_KOK X T K) (h : sx_wkc T K K' = true) : sx_KOK X T K' := by
  intro F r vs M d hd hM hr hG hargs hon
  unfold sx_wkc at h
  rw [Bool.and_eq_true, Bool.and_eq_true] at h
  obtain ⟨h1, h2, h3⟩ := h
  have h1 := Nat.eq_of_beq_eq_true h1
  have h2 := Nat.le_of_ble_eq_true h2
  split at h3
  · rename_i o ho
    have e1 : (K'.2.2.2.2.1.reverse.take K'.2.2.2.2.1.reverse.length).reverse = K'.2.2.2.2.1 := by rw [List.take_length, List.reverse_reverse]
    have hargs2 : sx_os F.1 r K'.2.2.2.2.1.reverse vs.reverse := sx_os_rv hargs
    have hlen : vs.reverse.length = K'.2.2.2.2.1.reverse.length := by
      have : ∀ {a : List sx_V} {b : List Value}, sx_os F.1 r a b → b.length = a.length := by
        intro a
        induction a with
        | nil => intro b hb; cases b with | nil => rfl | cons _ _ => exact hb.elim
        | cons x a ih => intro b hb; cases b with | nil => exact hb.elim | cons y b => rw [List.length_cons, List.length_cons, ih hb.2]
      exact this hargs2
    have e2 : (vs.reverse.take K'.2.2.2.2.1.reverse.length).reverse = vs := by rw [← hlen, List.take_length, List.reverse_reverse]
    have hF : (F.1, F.2.1, r, F.2.2.2) = F := by rw [← hr]
    obtain ⟨out, k1, p, hp, r2, k2, k3, k4, k5⟩ := sx_kc_ok (E := sx_KE T K') (F := F) (n := K'.2.2.2.2.1.reverse.length) (ls := []) (cl := []) (cs := vs.reverse) (d := d) hG hK (Nat.le_trans h2 hd) (by rw [e1]; exact ho) (fun q hq => by cases hq) hargs2 hon
    rw [e2, h1] at k1
    refine ⟨out, k1, ?_⟩
    have h4 := List.all_eq_true.mp h3 p hp
    rw [Bool.or_eq_true] at h4
    rcases h4 with h4 | h4
    · rw [sx_de_ok k5] at h4
      cases h4
    · obtain ⟨p', hp', z⟩ := List.any_eq_true.mp h4
      obtain ⟨r3, w1, w2⟩ := sx_pm_ok (E := sx_KE T K') (F := F) (r0 := r) (n1 := K'.2.2.2.2.2.1.2.2.2) z (Nat.le_refl _) rfl (fun s _ => by rw [hr]) k4 (by rw [hF]; exact k5)
      exact ⟨p', hp', r3, w1, w2⟩
  · cases h3
