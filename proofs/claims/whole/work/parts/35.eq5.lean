theorem eq_gcd {a b : Int64} (ha : 0 ≤ a.toInt) (hb : 0 ≤ b.toInt) : f_X2_commonDivisor a b = f_X5_divisor a b := Int64.toInt_inj.mp (by rw [cd_gcd ha hb, div_gcd ha hb])
theorem gcd_pos {a b : Int64} (ha : 0 ≤ a.toInt) (hb : 0 < b.toInt) : 1 ≤ (f_X5_divisor a b).toInt := by
  rw [div_gcd ha (by omega)]
  have h2 : 0 < Nat.gcd a.toInt.toNat b.toInt.toNat := Nat.gcd_pos_of_pos_right _ (by omega)
  omega
theorem eq_become {a b : Int64} (ha : 0 ≤ a.toInt) (hb : 0 < b.toInt) : f_X2_become a b = (a / f_X5_divisor a b, b / f_X5_divisor a b) := by
  have z1 : (1 : Int64).toInt = 1 := rfl
  have hg := gcd_pos ha hb
  unfold f_X2_become
  rw [eq_gcd ha (by omega), lt1_def, if_pos ((lg_cmp_ge _ _).mpr (Int64.le_iff_toInt_le.mpr (by omega)))]
theorem eq_frac {a b : Int64} {part : Int32} : f_X2_part (a / f_X5_divisor a b) (b / f_X5_divisor a b) part = f_X5_partOf a b part := by
  unfold f_X2_part f_X5_partOf
  simp only [lt1]

