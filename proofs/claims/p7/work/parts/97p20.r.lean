/-! a copy says the same -/
theorem mx_cr {J : Nat → Nat → Int32} {D N n : Nat} {fS fD : Nat → Int32} (h : n < N) : nt_u1 J D (va_cpy fS fD 0 0 N) D n = fS n := by
  show (if D = D then va_cpy fS fD 0 0 N else J D) n = _
  rw [if_pos rfl]
  unfold va_cpy
  rw [if_pos ⟨by omega, by omega⟩]
  congr 1
  omega
theorem xc90_1_0 {q r : Nat → Nat} {J : Nat → Nat → Int32} (hq : zq q) : x90 q r J (q 1) 0 = J (r 1) 0 := by
  unfold x90
  rw [mu_1 (hq 1 9 (by omega) (by omega) (by decide)), mu_1 (hq 1 8 (by omega) (by omega) (by decide)), mu_1 (hq 1 7 (by omega) (by omega) (by decide)), mu_1 (hq 1 6 (by omega) (by omega) (by decide)), mu_1 (hq 1 5 (by omega) (by omega) (by decide)), mu_1 (hq 1 4 (by omega) (by omega) (by decide)), mu_1 (hq 1 3 (by omega) (by omega) (by decide)), mu_1 (hq 1 2 (by omega) (by omega) (by decide)), me_uk (by decide), me_uk (by decide), me_uk (by decide), me_uk (by decide), me_us]
theorem xc90_1_1 {q r : Nat → Nat} {J : Nat → Nat → Int32} (hq : zq q) : x90 q r J (q 1) 1 = J (r 1) 1 := by
  unfold x90
  rw [mu_1 (hq 1 9 (by omega) (by omega) (by decide)), mu_1 (hq 1 8 (by omega) (by omega) (by decide)), mu_1 (hq 1 7 (by omega) (by omega) (by decide)), mu_1 (hq 1 6 (by omega) (by omega) (by decide)), mu_1 (hq 1 5 (by omega) (by omega) (by decide)), mu_1 (hq 1 4 (by omega) (by omega) (by decide)), mu_1 (hq 1 3 (by omega) (by omega) (by decide)), mu_1 (hq 1 2 (by omega) (by omega) (by decide)), me_uk (by decide), me_uk (by decide), me_uk (by decide), me_us]
theorem xc90_1_2 {q r : Nat → Nat} {J : Nat → Nat → Int32} (hq : zq q) : x90 q r J (q 1) 2 = J (r 1) 2 := by
  unfold x90
  rw [mu_1 (hq 1 9 (by omega) (by omega) (by decide)), mu_1 (hq 1 8 (by omega) (by omega) (by decide)), mu_1 (hq 1 7 (by omega) (by omega) (by decide)), mu_1 (hq 1 6 (by omega) (by omega) (by decide)), mu_1 (hq 1 5 (by omega) (by omega) (by decide)), mu_1 (hq 1 4 (by omega) (by omega) (by decide)), mu_1 (hq 1 3 (by omega) (by omega) (by decide)), mu_1 (hq 1 2 (by omega) (by omega) (by decide)), me_uk (by decide), me_uk (by decide), me_us]
theorem xc90_1_3 {q r : Nat → Nat} {J : Nat → Nat → Int32} (hq : zq q) : x90 q r J (q 1) 3 = J (r 1) 3 := by
  unfold x90
  rw [mu_1 (hq 1 9 (by omega) (by omega) (by decide)), mu_1 (hq 1 8 (by omega) (by omega) (by decide)), mu_1 (hq 1 7 (by omega) (by omega) (by decide)), mu_1 (hq 1 6 (by omega) (by omega) (by decide)), mu_1 (hq 1 5 (by omega) (by omega) (by decide)), mu_1 (hq 1 4 (by omega) (by omega) (by decide)), mu_1 (hq 1 3 (by omega) (by omega) (by decide)), mu_1 (hq 1 2 (by omega) (by omega) (by decide)), me_uk (by decide), me_us]
theorem xc90_1_4 {q r : Nat → Nat} {J : Nat → Nat → Int32} (hq : zq q) : x90 q r J (q 1) 4 = J (r 1) 4 := by
  unfold x90
  rw [mu_1 (hq 1 9 (by omega) (by omega) (by decide)), mu_1 (hq 1 8 (by omega) (by omega) (by decide)), mu_1 (hq 1 7 (by omega) (by omega) (by decide)), mu_1 (hq 1 6 (by omega) (by omega) (by decide)), mu_1 (hq 1 5 (by omega) (by omega) (by decide)), mu_1 (hq 1 4 (by omega) (by omega) (by decide)), mu_1 (hq 1 3 (by omega) (by omega) (by decide)), mu_1 (hq 1 2 (by omega) (by omega) (by decide)), me_us]
theorem xc90_2 {q r : Nat → Nat} {J : Nat → Nat → Int32} {n : Nat} (hq : zq q) (h : n < 24) : x90 q r J (q 2) n = J (r 2) n := by
  unfold x90
  rw [mu_1 (hq 2 9 (by omega) (by omega) (by decide)), mu_1 (hq 2 8 (by omega) (by omega) (by decide)), mu_1 (hq 2 7 (by omega) (by omega) (by decide)), mu_1 (hq 2 6 (by omega) (by omega) (by decide)), mu_1 (hq 2 5 (by omega) (by omega) (by decide)), mu_1 (hq 2 4 (by omega) (by omega) (by decide)), mu_1 (hq 2 3 (by omega) (by omega) (by decide)), mx_cr h]
theorem xc90_3 {q r : Nat → Nat} {J : Nat → Nat → Int32} {n : Nat} (hq : zq q) (h : n < 24) : x90 q r J (q 3) n = J (r 3) n := by
  unfold x90
  rw [mu_1 (hq 3 9 (by omega) (by omega) (by decide)), mu_1 (hq 3 8 (by omega) (by omega) (by decide)), mu_1 (hq 3 7 (by omega) (by omega) (by decide)), mu_1 (hq 3 6 (by omega) (by omega) (by decide)), mu_1 (hq 3 5 (by omega) (by omega) (by decide)), mu_1 (hq 3 4 (by omega) (by omega) (by decide)), mx_cr h]
theorem xc90_4 {q r : Nat → Nat} {J : Nat → Nat → Int32} {n : Nat} (hq : zq q) (h : n < 24) : x90 q r J (q 4) n = J (r 4) n := by
  unfold x90
  rw [mu_1 (hq 4 9 (by omega) (by omega) (by decide)), mu_1 (hq 4 8 (by omega) (by omega) (by decide)), mu_1 (hq 4 7 (by omega) (by omega) (by decide)), mu_1 (hq 4 6 (by omega) (by omega) (by decide)), mu_1 (hq 4 5 (by omega) (by omega) (by decide)), mx_cr h]
theorem xc90_5 {q r : Nat → Nat} {J : Nat → Nat → Int32} {n : Nat} (hq : zq q) (h : n < 24) : x90 q r J (q 5) n = J (r 5) n := by
  unfold x90
  rw [mu_1 (hq 5 9 (by omega) (by omega) (by decide)), mu_1 (hq 5 8 (by omega) (by omega) (by decide)), mu_1 (hq 5 7 (by omega) (by omega) (by decide)), mu_1 (hq 5 6 (by omega) (by omega) (by decide)), mx_cr h]
theorem xc90_6 {q r : Nat → Nat} {J : Nat → Nat → Int32} {n : Nat} (hq : zq q) (h : n < 8) : x90 q r J (q 6) n = J (r 6) n := by
  unfold x90
  rw [mu_1 (hq 6 9 (by omega) (by omega) (by decide)), mu_1 (hq 6 8 (by omega) (by omega) (by decide)), mu_1 (hq 6 7 (by omega) (by omega) (by decide)), mx_cr h]
theorem xc90_7 {q r : Nat → Nat} {J : Nat → Nat → Int32} {n : Nat} (hq : zq q) (h : n < 8) : x90 q r J (q 7) n = J (r 7) n := by
  unfold x90
  rw [mu_1 (hq 7 9 (by omega) (by omega) (by decide)), mu_1 (hq 7 8 (by omega) (by omega) (by decide)), mx_cr h]
theorem xc90_8 {q r : Nat → Nat} {J : Nat → Nat → Int32} {n : Nat} (hq : zq q) (h : n < 8) : x90 q r J (q 8) n = J (r 8) n := by
  unfold x90
  rw [mu_1 (hq 8 9 (by omega) (by omega) (by decide)), mx_cr h]
theorem xc90_9 {q r : Nat → Nat} {J : Nat → Nat → Int32} {n : Nat} (hq : zq q) (h : n < 8) : x90 q r J (q 9) n = J (r 9) n := by
  unfold x90
  rw [mx_cr h]
theorem xc80_0_1 {q r : Nat → Nat} {J : Nat → Nat → Int32} (hq : zq q) : x80 q r J (q 0) 1 = J (r 0) 1 := by
  unfold x80
  rw [mu_1 (hq 0 16 (by omega) (by omega) (by decide)), mu_1 (hq 0 15 (by omega) (by omega) (by decide)), mu_1 (hq 0 14 (by omega) (by omega) (by decide)), mu_1 (hq 0 13 (by omega) (by omega) (by decide)), mu_1 (hq 0 12 (by omega) (by omega) (by decide)), mu_1 (hq 0 11 (by omega) (by omega) (by decide)), mu_1 (hq 0 10 (by omega) (by omega) (by decide)), me_uk (by decide), me_uk (by decide), me_uk (by decide), me_uk (by decide), me_uk (by decide), me_us]
theorem xc80_0_2 {q r : Nat → Nat} {J : Nat → Nat → Int32} (hq : zq q) : x80 q r J (q 0) 2 = J (r 0) 2 := by
  unfold x80
  rw [mu_1 (hq 0 16 (by omega) (by omega) (by decide)), mu_1 (hq 0 15 (by omega) (by omega) (by decide)), mu_1 (hq 0 14 (by omega) (by omega) (by decide)), mu_1 (hq 0 13 (by omega) (by omega) (by decide)), mu_1 (hq 0 12 (by omega) (by omega) (by decide)), mu_1 (hq 0 11 (by omega) (by omega) (by decide)), mu_1 (hq 0 10 (by omega) (by omega) (by decide)), me_uk (by decide), me_uk (by decide), me_uk (by decide), me_uk (by decide), me_us]
theorem xc80_0_3 {q r : Nat → Nat} {J : Nat → Nat → Int32} (hq : zq q) : x80 q r J (q 0) 3 = J (r 0) 3 := by
  unfold x80
  rw [mu_1 (hq 0 16 (by omega) (by omega) (by decide)), mu_1 (hq 0 15 (by omega) (by omega) (by decide)), mu_1 (hq 0 14 (by omega) (by omega) (by decide)), mu_1 (hq 0 13 (by omega) (by omega) (by decide)), mu_1 (hq 0 12 (by omega) (by omega) (by decide)), mu_1 (hq 0 11 (by omega) (by omega) (by decide)), mu_1 (hq 0 10 (by omega) (by omega) (by decide)), me_uk (by decide), me_uk (by decide), me_uk (by decide), me_us]
theorem xc80_0_4 {q r : Nat → Nat} {J : Nat → Nat → Int32} (hq : zq q) : x80 q r J (q 0) 4 = J (r 0) 4 := by
  unfold x80
  rw [mu_1 (hq 0 16 (by omega) (by omega) (by decide)), mu_1 (hq 0 15 (by omega) (by omega) (by decide)), mu_1 (hq 0 14 (by omega) (by omega) (by decide)), mu_1 (hq 0 13 (by omega) (by omega) (by decide)), mu_1 (hq 0 12 (by omega) (by omega) (by decide)), mu_1 (hq 0 11 (by omega) (by omega) (by decide)), mu_1 (hq 0 10 (by omega) (by omega) (by decide)), me_uk (by decide), me_uk (by decide), me_us]
theorem xc80_0_5 {q r : Nat → Nat} {J : Nat → Nat → Int32} (hq : zq q) : x80 q r J (q 0) 5 = J (r 0) 5 := by
  unfold x80
  rw [mu_1 (hq 0 16 (by omega) (by omega) (by decide)), mu_1 (hq 0 15 (by omega) (by omega) (by decide)), mu_1 (hq 0 14 (by omega) (by omega) (by decide)), mu_1 (hq 0 13 (by omega) (by omega) (by decide)), mu_1 (hq 0 12 (by omega) (by omega) (by decide)), mu_1 (hq 0 11 (by omega) (by omega) (by decide)), mu_1 (hq 0 10 (by omega) (by omega) (by decide)), me_uk (by decide), me_us]
theorem xc80_0_6 {q r : Nat → Nat} {J : Nat → Nat → Int32} (hq : zq q) : x80 q r J (q 0) 6 = J (r 0) 6 := by
  unfold x80
  rw [mu_1 (hq 0 16 (by omega) (by omega) (by decide)), mu_1 (hq 0 15 (by omega) (by omega) (by decide)), mu_1 (hq 0 14 (by omega) (by omega) (by decide)), mu_1 (hq 0 13 (by omega) (by omega) (by decide)), mu_1 (hq 0 12 (by omega) (by omega) (by decide)), mu_1 (hq 0 11 (by omega) (by omega) (by decide)), mu_1 (hq 0 10 (by omega) (by omega) (by decide)), me_us]
theorem xc80_1 {q r : Nat → Nat} {J : Nat → Nat → Int32} (hq : zq q) : x80 q r J (q 1) = x90 q r J (q 1) := by
  unfold x80
  rw [mu_1 (hq 1 16 (by omega) (by omega) (by decide)), mu_1 (hq 1 15 (by omega) (by omega) (by decide)), mu_1 (hq 1 14 (by omega) (by omega) (by decide)), mu_1 (hq 1 13 (by omega) (by omega) (by decide)), mu_1 (hq 1 12 (by omega) (by omega) (by decide)), mu_1 (hq 1 11 (by omega) (by omega) (by decide)), mu_1 (hq 1 10 (by omega) (by omega) (by decide)), me_uo (hq 1 0 (by omega) (by omega) (by decide)), me_uo (hq 1 0 (by omega) (by omega) (by decide)), me_uo (hq 1 0 (by omega) (by omega) (by decide)), me_uo (hq 1 0 (by omega) (by omega) (by decide)), me_uo (hq 1 0 (by omega) (by omega) (by decide)), me_uo (hq 1 0 (by omega) (by omega) (by decide))]
theorem xc80_2 {q r : Nat → Nat} {J : Nat → Nat → Int32} (hq : zq q) : x80 q r J (q 2) = x90 q r J (q 2) := by
  unfold x80
  rw [mu_1 (hq 2 16 (by omega) (by omega) (by decide)), mu_1 (hq 2 15 (by omega) (by omega) (by decide)), mu_1 (hq 2 14 (by omega) (by omega) (by decide)), mu_1 (hq 2 13 (by omega) (by omega) (by decide)), mu_1 (hq 2 12 (by omega) (by omega) (by decide)), mu_1 (hq 2 11 (by omega) (by omega) (by decide)), mu_1 (hq 2 10 (by omega) (by omega) (by decide)), me_uo (hq 2 0 (by omega) (by omega) (by decide)), me_uo (hq 2 0 (by omega) (by omega) (by decide)), me_uo (hq 2 0 (by omega) (by omega) (by decide)), me_uo (hq 2 0 (by omega) (by omega) (by decide)), me_uo (hq 2 0 (by omega) (by omega) (by decide)), me_uo (hq 2 0 (by omega) (by omega) (by decide))]
theorem xc80_3 {q r : Nat → Nat} {J : Nat → Nat → Int32} (hq : zq q) : x80 q r J (q 3) = x90 q r J (q 3) := by
  unfold x80
  rw [mu_1 (hq 3 16 (by omega) (by omega) (by decide)), mu_1 (hq 3 15 (by omega) (by omega) (by decide)), mu_1 (hq 3 14 (by omega) (by omega) (by decide)), mu_1 (hq 3 13 (by omega) (by omega) (by decide)), mu_1 (hq 3 12 (by omega) (by omega) (by decide)), mu_1 (hq 3 11 (by omega) (by omega) (by decide)), mu_1 (hq 3 10 (by omega) (by omega) (by decide)), me_uo (hq 3 0 (by omega) (by omega) (by decide)), me_uo (hq 3 0 (by omega) (by omega) (by decide)), me_uo (hq 3 0 (by omega) (by omega) (by decide)), me_uo (hq 3 0 (by omega) (by omega) (by decide)), me_uo (hq 3 0 (by omega) (by omega) (by decide)), me_uo (hq 3 0 (by omega) (by omega) (by decide))]
theorem xc80_4 {q r : Nat → Nat} {J : Nat → Nat → Int32} (hq : zq q) : x80 q r J (q 4) = x90 q r J (q 4) := by
  unfold x80
  rw [mu_1 (hq 4 16 (by omega) (by omega) (by decide)), mu_1 (hq 4 15 (by omega) (by omega) (by decide)), mu_1 (hq 4 14 (by omega) (by omega) (by decide)), mu_1 (hq 4 13 (by omega) (by omega) (by decide)), mu_1 (hq 4 12 (by omega) (by omega) (by decide)), mu_1 (hq 4 11 (by omega) (by omega) (by decide)), mu_1 (hq 4 10 (by omega) (by omega) (by decide)), me_uo (hq 4 0 (by omega) (by omega) (by decide)), me_uo (hq 4 0 (by omega) (by omega) (by decide)), me_uo (hq 4 0 (by omega) (by omega) (by decide)), me_uo (hq 4 0 (by omega) (by omega) (by decide)), me_uo (hq 4 0 (by omega) (by omega) (by decide)), me_uo (hq 4 0 (by omega) (by omega) (by decide))]
theorem xc80_5 {q r : Nat → Nat} {J : Nat → Nat → Int32} (hq : zq q) : x80 q r J (q 5) = x90 q r J (q 5) := by
  unfold x80
  rw [mu_1 (hq 5 16 (by omega) (by omega) (by decide)), mu_1 (hq 5 15 (by omega) (by omega) (by decide)), mu_1 (hq 5 14 (by omega) (by omega) (by decide)), mu_1 (hq 5 13 (by omega) (by omega) (by decide)), mu_1 (hq 5 12 (by omega) (by omega) (by decide)), mu_1 (hq 5 11 (by omega) (by omega) (by decide)), mu_1 (hq 5 10 (by omega) (by omega) (by decide)), me_uo (hq 5 0 (by omega) (by omega) (by decide)), me_uo (hq 5 0 (by omega) (by omega) (by decide)), me_uo (hq 5 0 (by omega) (by omega) (by decide)), me_uo (hq 5 0 (by omega) (by omega) (by decide)), me_uo (hq 5 0 (by omega) (by omega) (by decide)), me_uo (hq 5 0 (by omega) (by omega) (by decide))]
theorem xc80_6 {q r : Nat → Nat} {J : Nat → Nat → Int32} (hq : zq q) : x80 q r J (q 6) = x90 q r J (q 6) := by
  unfold x80
  rw [mu_1 (hq 6 16 (by omega) (by omega) (by decide)), mu_1 (hq 6 15 (by omega) (by omega) (by decide)), mu_1 (hq 6 14 (by omega) (by omega) (by decide)), mu_1 (hq 6 13 (by omega) (by omega) (by decide)), mu_1 (hq 6 12 (by omega) (by omega) (by decide)), mu_1 (hq 6 11 (by omega) (by omega) (by decide)), mu_1 (hq 6 10 (by omega) (by omega) (by decide)), me_uo (hq 6 0 (by omega) (by omega) (by decide)), me_uo (hq 6 0 (by omega) (by omega) (by decide)), me_uo (hq 6 0 (by omega) (by omega) (by decide)), me_uo (hq 6 0 (by omega) (by omega) (by decide)), me_uo (hq 6 0 (by omega) (by omega) (by decide)), me_uo (hq 6 0 (by omega) (by omega) (by decide))]
theorem xc80_7 {q r : Nat → Nat} {J : Nat → Nat → Int32} (hq : zq q) : x80 q r J (q 7) = x90 q r J (q 7) := by
  unfold x80
  rw [mu_1 (hq 7 16 (by omega) (by omega) (by decide)), mu_1 (hq 7 15 (by omega) (by omega) (by decide)), mu_1 (hq 7 14 (by omega) (by omega) (by decide)), mu_1 (hq 7 13 (by omega) (by omega) (by decide)), mu_1 (hq 7 12 (by omega) (by omega) (by decide)), mu_1 (hq 7 11 (by omega) (by omega) (by decide)), mu_1 (hq 7 10 (by omega) (by omega) (by decide)), me_uo (hq 7 0 (by omega) (by omega) (by decide)), me_uo (hq 7 0 (by omega) (by omega) (by decide)), me_uo (hq 7 0 (by omega) (by omega) (by decide)), me_uo (hq 7 0 (by omega) (by omega) (by decide)), me_uo (hq 7 0 (by omega) (by omega) (by decide)), me_uo (hq 7 0 (by omega) (by omega) (by decide))]
theorem xc80_8 {q r : Nat → Nat} {J : Nat → Nat → Int32} (hq : zq q) : x80 q r J (q 8) = x90 q r J (q 8) := by
  unfold x80
  rw [mu_1 (hq 8 16 (by omega) (by omega) (by decide)), mu_1 (hq 8 15 (by omega) (by omega) (by decide)), mu_1 (hq 8 14 (by omega) (by omega) (by decide)), mu_1 (hq 8 13 (by omega) (by omega) (by decide)), mu_1 (hq 8 12 (by omega) (by omega) (by decide)), mu_1 (hq 8 11 (by omega) (by omega) (by decide)), mu_1 (hq 8 10 (by omega) (by omega) (by decide)), me_uo (hq 8 0 (by omega) (by omega) (by decide)), me_uo (hq 8 0 (by omega) (by omega) (by decide)), me_uo (hq 8 0 (by omega) (by omega) (by decide)), me_uo (hq 8 0 (by omega) (by omega) (by decide)), me_uo (hq 8 0 (by omega) (by omega) (by decide)), me_uo (hq 8 0 (by omega) (by omega) (by decide))]
theorem xc80_9 {q r : Nat → Nat} {J : Nat → Nat → Int32} (hq : zq q) : x80 q r J (q 9) = x90 q r J (q 9) := by
  unfold x80
  rw [mu_1 (hq 9 16 (by omega) (by omega) (by decide)), mu_1 (hq 9 15 (by omega) (by omega) (by decide)), mu_1 (hq 9 14 (by omega) (by omega) (by decide)), mu_1 (hq 9 13 (by omega) (by omega) (by decide)), mu_1 (hq 9 12 (by omega) (by omega) (by decide)), mu_1 (hq 9 11 (by omega) (by omega) (by decide)), mu_1 (hq 9 10 (by omega) (by omega) (by decide)), me_uo (hq 9 0 (by omega) (by omega) (by decide)), me_uo (hq 9 0 (by omega) (by omega) (by decide)), me_uo (hq 9 0 (by omega) (by omega) (by decide)), me_uo (hq 9 0 (by omega) (by omega) (by decide)), me_uo (hq 9 0 (by omega) (by omega) (by decide)), me_uo (hq 9 0 (by omega) (by omega) (by decide))]
theorem xc80_10 {q r : Nat → Nat} {J : Nat → Nat → Int32} {n : Nat} (hq : zq q) (h : n < 6) : x80 q r J (q 10) n = J (r 10) n := by
  unfold x80
  rw [mu_1 (hq 10 16 (by omega) (by omega) (by decide)), mu_1 (hq 10 15 (by omega) (by omega) (by decide)), mu_1 (hq 10 14 (by omega) (by omega) (by decide)), mu_1 (hq 10 13 (by omega) (by omega) (by decide)), mu_1 (hq 10 12 (by omega) (by omega) (by decide)), mu_1 (hq 10 11 (by omega) (by omega) (by decide)), mx_cr h]
theorem xc80_11 {q r : Nat → Nat} {J : Nat → Nat → Int32} {n : Nat} (hq : zq q) (h : n < 6) : x80 q r J (q 11) n = J (r 11) n := by
  unfold x80
  rw [mu_1 (hq 11 16 (by omega) (by omega) (by decide)), mu_1 (hq 11 15 (by omega) (by omega) (by decide)), mu_1 (hq 11 14 (by omega) (by omega) (by decide)), mu_1 (hq 11 13 (by omega) (by omega) (by decide)), mu_1 (hq 11 12 (by omega) (by omega) (by decide)), mx_cr h]
theorem xc80_12 {q r : Nat → Nat} {J : Nat → Nat → Int32} {n : Nat} (hq : zq q) (h : n < 6) : x80 q r J (q 12) n = J (r 12) n := by
  unfold x80
  rw [mu_1 (hq 12 16 (by omega) (by omega) (by decide)), mu_1 (hq 12 15 (by omega) (by omega) (by decide)), mu_1 (hq 12 14 (by omega) (by omega) (by decide)), mu_1 (hq 12 13 (by omega) (by omega) (by decide)), mx_cr h]
theorem xc80_13 {q r : Nat → Nat} {J : Nat → Nat → Int32} {n : Nat} (hq : zq q) (h : n < 24) : x80 q r J (q 13) n = J (r 13) n := by
  unfold x80
  rw [mu_1 (hq 13 16 (by omega) (by omega) (by decide)), mu_1 (hq 13 15 (by omega) (by omega) (by decide)), mu_1 (hq 13 14 (by omega) (by omega) (by decide)), mx_cr h]
theorem xc80_14 {q r : Nat → Nat} {J : Nat → Nat → Int32} {n : Nat} (hq : zq q) (h : n < 24) : x80 q r J (q 14) n = J (r 14) n := by
  unfold x80
  rw [mu_1 (hq 14 16 (by omega) (by omega) (by decide)), mu_1 (hq 14 15 (by omega) (by omega) (by decide)), mx_cr h]
theorem xc80_15 {q r : Nat → Nat} {J : Nat → Nat → Int32} {n : Nat} (hq : zq q) (h : n < 24) : x80 q r J (q 15) n = J (r 15) n := by
  unfold x80
  rw [mu_1 (hq 15 16 (by omega) (by omega) (by decide)), mx_cr h]
theorem xc80_16 {q r : Nat → Nat} {J : Nat → Nat → Int32} {n : Nat} (hq : zq q) (h : n < 8) : x80 q r J (q 16) n = J (r 16) n := by
  unfold x80
  rw [mx_cr h]
def zlen (r : Nat) : Nat := if r = 2 ∨ r = 3 ∨ r = 5 ∨ r = 13 ∨ r = 14 ∨ r = 15 then 24 else if r < 10 ∨ r = 16 then 8 else 6
theorem zc_bd : ∀ j, j < 212 → ((zc j).1 = 0 ∧ 1 ≤ (zc j).2 ∧ (zc j).2 ≤ 6) ∨ ((zc j).1 = 1 ∧ (zc j).2 ≤ 4) ∨ (2 ≤ (zc j).1 ∧ (zc j).1 < 17 ∧ (zc j).1 ≠ 4 ∧ (zc j).2 < zlen (zc j).1) := by decide +kernel
theorem zR_copy {q r : Nat → Nat} {J : Nat → Nat → Int32} {e : Nat → Int32} (hq : zq q) (h : zR r J e) : zR q (x80 q r J) e := by
  refine ⟨fun j hj => ?_, ?_⟩
  · rw [← h.1 j hj]
    rcases zc_bd j (zv_lt hj) with ⟨e1, a, b⟩ | ⟨e1, a⟩ | ⟨l2, l17, n4, a⟩
    · rw [e1]
      rcases (by omega : (zc j).2 = 1 ∨ (zc j).2 = 2 ∨ (zc j).2 = 3 ∨ (zc j).2 = 4 ∨ (zc j).2 = 5 ∨ (zc j).2 = 6) with c | c | c | c | c | c
      · rw [c]
        exact xc80_0_1 hq
      · rw [c]
        exact xc80_0_2 hq
      · rw [c]
        exact xc80_0_3 hq
      · rw [c]
        exact xc80_0_4 hq
      · rw [c]
        exact xc80_0_5 hq
      · rw [c]
        exact xc80_0_6 hq
    · rw [e1]
      rcases (by omega : (zc j).2 = 0 ∨ (zc j).2 = 1 ∨ (zc j).2 = 2 ∨ (zc j).2 = 3 ∨ (zc j).2 = 4) with c | c | c | c | c
      · rw [c, xc80_1 hq]
        exact xc90_1_0 hq
      · rw [c, xc80_1 hq]
        exact xc90_1_1 hq
      · rw [c, xc80_1 hq]
        exact xc90_1_2 hq
      · rw [c, xc80_1 hq]
        exact xc90_1_3 hq
      · rw [c, xc80_1 hq]
        exact xc90_1_4 hq
    · rcases (by omega : (zc j).1 = 2 ∨ (zc j).1 = 3 ∨ (zc j).1 = 5 ∨ (zc j).1 = 6 ∨ (zc j).1 = 7 ∨ (zc j).1 = 8 ∨ (zc j).1 = 9 ∨ (zc j).1 = 10 ∨ (zc j).1 = 11 ∨ (zc j).1 = 12 ∨ (zc j).1 = 13 ∨ (zc j).1 = 14 ∨ (zc j).1 = 15 ∨ (zc j).1 = 16) with e1 | e1 | e1 | e1 | e1 | e1 | e1 | e1 | e1 | e1 | e1 | e1 | e1 | e1
      · rw [e1] at a ⊢
        exact (congrFun (xc80_2 hq) _).trans (xc90_2 hq a)
      · rw [e1] at a ⊢
        exact (congrFun (xc80_3 hq) _).trans (xc90_3 hq a)
      · rw [e1] at a ⊢
        exact (congrFun (xc80_5 hq) _).trans (xc90_5 hq a)
      · rw [e1] at a ⊢
        exact (congrFun (xc80_6 hq) _).trans (xc90_6 hq a)
      · rw [e1] at a ⊢
        exact (congrFun (xc80_7 hq) _).trans (xc90_7 hq a)
      · rw [e1] at a ⊢
        exact (congrFun (xc80_8 hq) _).trans (xc90_8 hq a)
      · rw [e1] at a ⊢
        exact (congrFun (xc80_9 hq) _).trans (xc90_9 hq a)
      · rw [e1] at a ⊢
        exact xc80_10 hq a
      · rw [e1] at a ⊢
        exact xc80_11 hq a
      · rw [e1] at a ⊢
        exact xc80_12 hq a
      · rw [e1] at a ⊢
        exact xc80_13 hq a
      · rw [e1] at a ⊢
        exact xc80_14 hq a
      · rw [e1] at a ⊢
        exact xc80_15 hq a
      · rw [e1] at a ⊢
        exact xc80_16 hq a
  · rw [xc80_0_1 hq]
    exact h.2
