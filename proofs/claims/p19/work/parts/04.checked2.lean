theorem nt_ap {α : Type} {p : α → Bool} {a b : List α} (ha : a.all p = true) (hb : b.all p = true) : (a ++ b).all p = true := by rw [List.all_append, ha, hb]; rfl
theorem nt_c239 : (nt_pg 239).all (nt_okE 239) = true := nt_ap nt_c239_0 (nt_ap nt_c239_1 (nt_ap nt_c239_2 (nt_ap nt_c239_3 (nt_ap nt_c239_4 (nt_ap nt_c239_5 (nt_ap nt_c239_6 (nt_ap nt_c239_7 (nt_ap nt_c239_8 (nt_ap nt_c239_9 (nt_ap nt_c239_10 (nt_ap nt_c239_11 (nt_ap nt_c239_12 (nt_ap nt_c239_13 (nt_ap nt_c239_14 (nt_ap nt_c239_15 (nt_ap nt_c239_16 (nt_ap nt_c239_17 (nt_ap nt_c239_18 (nt_c239_19)))))))))))))))))))
theorem nt_rg {P : Nat → Bool} {a c : Nat} (h : (List.range' a c).all P = true) {i : Nat} (h1 : a ≤ i) (h2 : i < a + c) : P i = true :=
  List.all_eq_true.mp h i (List.mem_range'_1.mpr ⟨h1, h2⟩)
theorem nt_pg_ok {i : Nat} (hi : i < 240) : (nt_pg i).all (nt_okE i) = true := by
  by_cases h0 : i < 8
  · exact nt_rg (P := fun i => (nt_pg i).all (nt_okE i)) nt_c0 (by omega) (by omega)
  by_cases h8 : i < 16
  · exact nt_rg (P := fun i => (nt_pg i).all (nt_okE i)) nt_c8 (by omega) (by omega)
  by_cases h16 : i < 24
  · exact nt_rg (P := fun i => (nt_pg i).all (nt_okE i)) nt_c16 (by omega) (by omega)
  by_cases h24 : i < 32
  · exact nt_rg (P := fun i => (nt_pg i).all (nt_okE i)) nt_c24 (by omega) (by omega)
  by_cases h32 : i < 40
  · exact nt_rg (P := fun i => (nt_pg i).all (nt_okE i)) nt_c32 (by omega) (by omega)
  by_cases h40 : i < 48
  · exact nt_rg (P := fun i => (nt_pg i).all (nt_okE i)) nt_c40 (by omega) (by omega)
  by_cases h48 : i < 56
  · exact nt_rg (P := fun i => (nt_pg i).all (nt_okE i)) nt_c48 (by omega) (by omega)
  by_cases h56 : i < 64
  · exact nt_rg (P := fun i => (nt_pg i).all (nt_okE i)) nt_c56 (by omega) (by omega)
  by_cases h64 : i < 72
  · exact nt_rg (P := fun i => (nt_pg i).all (nt_okE i)) nt_c64 (by omega) (by omega)
  by_cases h72 : i < 80
  · exact nt_rg (P := fun i => (nt_pg i).all (nt_okE i)) nt_c72 (by omega) (by omega)
  by_cases h80 : i < 88
  · exact nt_rg (P := fun i => (nt_pg i).all (nt_okE i)) nt_c80 (by omega) (by omega)
  by_cases h88 : i < 96
  · exact nt_rg (P := fun i => (nt_pg i).all (nt_okE i)) nt_c88 (by omega) (by omega)
  by_cases h96 : i < 104
  · exact nt_rg (P := fun i => (nt_pg i).all (nt_okE i)) nt_c96 (by omega) (by omega)
  by_cases h104 : i < 112
  · exact nt_rg (P := fun i => (nt_pg i).all (nt_okE i)) nt_c104 (by omega) (by omega)
  by_cases h112 : i < 120
  · exact nt_rg (P := fun i => (nt_pg i).all (nt_okE i)) nt_c112 (by omega) (by omega)
  by_cases h120 : i < 128
  · exact nt_rg (P := fun i => (nt_pg i).all (nt_okE i)) nt_c120 (by omega) (by omega)
  by_cases h128 : i < 136
  · exact nt_rg (P := fun i => (nt_pg i).all (nt_okE i)) nt_c128 (by omega) (by omega)
  by_cases h136 : i < 144
  · exact nt_rg (P := fun i => (nt_pg i).all (nt_okE i)) nt_c136 (by omega) (by omega)
  by_cases h144 : i < 152
  · exact nt_rg (P := fun i => (nt_pg i).all (nt_okE i)) nt_c144 (by omega) (by omega)
  by_cases h152 : i < 160
  · exact nt_rg (P := fun i => (nt_pg i).all (nt_okE i)) nt_c152 (by omega) (by omega)
  by_cases h160 : i < 168
  · exact nt_rg (P := fun i => (nt_pg i).all (nt_okE i)) nt_c160 (by omega) (by omega)
  by_cases h168 : i < 176
  · exact nt_rg (P := fun i => (nt_pg i).all (nt_okE i)) nt_c168 (by omega) (by omega)
  by_cases h176 : i < 184
  · exact nt_rg (P := fun i => (nt_pg i).all (nt_okE i)) nt_c176 (by omega) (by omega)
  by_cases h184 : i < 192
  · exact nt_rg (P := fun i => (nt_pg i).all (nt_okE i)) nt_c184 (by omega) (by omega)
  by_cases h192 : i < 200
  · exact nt_rg (P := fun i => (nt_pg i).all (nt_okE i)) nt_c192 (by omega) (by omega)
  by_cases h200 : i < 208
  · exact nt_rg (P := fun i => (nt_pg i).all (nt_okE i)) nt_c200 (by omega) (by omega)
  by_cases h208 : i < 216
  · exact nt_rg (P := fun i => (nt_pg i).all (nt_okE i)) nt_c208 (by omega) (by omega)
  by_cases h216 : i < 224
  · exact nt_rg (P := fun i => (nt_pg i).all (nt_okE i)) nt_c216 (by omega) (by omega)
  by_cases h224 : i < 232
  · exact nt_rg (P := fun i => (nt_pg i).all (nt_okE i)) nt_c224 (by omega) (by omega)
  by_cases h232 : i < 239
  · exact nt_rg (P := fun i => (nt_pg i).all (nt_okE i)) nt_c232 (by omega) (by omega)
  have e : i = 239 := by omega
  rw [e]
  exact nt_c239
