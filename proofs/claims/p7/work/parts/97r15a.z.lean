/-! years, both sides -/
theorem zR_x6 {q : Nat → Nat} {J : Nat → Nat → Int32} {e : Nat → Int32} {v : Int32} (hq : zq q) (h : zR q J e) : zR q (nt_u J (q 0) 6 v) e := by
  refine ⟨fun j hj => ?_, ?_⟩
  · rw [← h.1 j hj]
    by_cases er : (zc j).1 = 0
    · rw [er]
      have nk : (zc j).2 ≠ 6 := by
        intro ek
        have z := zi_c j (zv_lt hj)
        rw [show zc j = (0, 6) from Prod.ext er ek, show zi (0, 6) = 9 from rfl] at z
        subst z
        unfold zv at hj
        omega
      rw [me_uk nk]
    · rw [me_uo (hq _ _ (zc_17 j (zv_lt hj)) (by omega) er)]
  · rw [me_uk (by decide), h.2]
