theorem xw {v a b : Int32} {A B : Int64} (hA : a.toInt64 = A) (hB : b.toInt64 = B) : x_in v a b ↔ w_in v.toInt64 A B := by
  subst hA hB
  unfold x_in w_in
  rw [Int32.le_iff_toInt_le, Int32.le_iff_toInt_le, Int64.le_iff_toInt_le, Int64.le_iff_toInt_le, Int32.toInt_toInt64, Int32.toInt_toInt64, Int32.toInt_toInt64]
theorem x_inN {a lo hi : Nat} (h1 : lo ≤ a) (h2 : a ≤ hi) (h : hi < 2 ^ 31) : x_in (nI a) (nI lo) (nI hi) := ⟨nI_le h1 (by omega), nI_le h2 (by omega)⟩

