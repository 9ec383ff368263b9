theorem cell_in {S4 : Int64} {k n : Nat} (h : S4 = lN n) (hk : k < n) (hn : n ≤ 32) : w_in (nI k).toInt64 0 (S4 - 1) := by
  rw [nI_l (by omega), h, show (1 : Int64) = lN 1 from rfl, lN_sub (by omega)]
  exact w_inN (lo := 0) (by omega) (by omega) (by omega)
theorem sub_add9 (a b c : Int64) : a - b - c = a - (b + c) := by grind
theorem eq_sub9 {a b : Int64} (h : a - b = 0) : a = b := by grind
theorem nlt0 {z : Int64} (h : 0 ≤ z.toInt) : ¬ z < 0 := by rw [lt0]; omega
