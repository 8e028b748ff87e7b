theorem all_div : ∀ k : Nat, k < 14 → (5019589575 : Int) / (2 * (k : Int) + 1) * (2 * (k : Int) + 1) = 5019589575 := by decide
section EQ6
variable {m_yards m_wind : Int32} {m_place m_pace m_skillOf m_tired m_kind m_figure m_height : Nat → Int32} {v1 v2 v3 : Int32}
/-- parts times how many errors there are = all parts times by how many it is had -/
theorem parts_mul (hM : MV m_kind m_figure m_height m_skillOf m_tired) (ht : vp_in v1 6) (ho : vp_in v2 5) : (f_X5_partsOf m_yards m_wind m_place m_pace m_skillOf m_tired m_kind m_figure m_height v1 v2 v3).toInt * (f_X5_eachOf m_skillOf m_tired m_kind m_figure m_height v1 v2 v3).toInt = 5019589575 * (f_X5_hadMany m_yards m_wind m_place m_pace m_skillOf m_tired m_kind m_figure m_height v1 v2 v3).toInt := by
  have hh := hadB (m_yards := m_yards) (m_wind := m_wind) (m_place := m_place) (m_pace := m_pace) (m_skillOf := m_skillOf) (m_tired := m_tired) (m_kind := m_kind) (m_figure := m_figure) (m_height := m_height) (v1 := v1) (v2 := v2) (v3 := v3)
  have hE := errB (t := v1) (o := v2) (p := v3) hM ht ho
  have hW := eachB (t := v1) (o := v2) (p := v3) hM ht ho
  have hp := eachP (v3 := v3) hM ht ho rfl
  have hw64 := Int32.toInt_toInt64 (f_X5_eachOf m_skillOf m_tired m_kind m_figure m_height v1 v2 v3)
  obtain ⟨k, hk⟩ := Int.eq_ofNat_of_zero_le hE.1
  have hdiv := all_div k (by omega)
  unfold f_X5_partsOf
  simp only [lt1]
  generalize f_X5_hadMany m_yards m_wind m_place m_pace m_skillOf m_tired m_kind m_figure m_height v1 v2 v3 = h at hh ⊢
  generalize f_X5_eachOf m_skillOf m_tired m_kind m_figure m_height v1 v2 v3 = e at hW hp hw64 ⊢
  have zA : (5019589575 : Int64).toInt = 5019589575 := rfl
  have hd := td64 (x := 5019589575) (y := Int32.toInt64 e) hp (by rw [zA]; omega)
  rw [zA] at hd
  have h3 : (5019589575 : Int) / (Int32.toInt64 e).toInt ≤ 5019589575 := Int.ediv_le_self _ (by omega)
  have h4 : 0 ≤ (5019589575 : Int) / (Int32.toInt64 e).toInt := Int.ediv_nonneg (by omega) (by omega)
  have h5 : (Int32.toInt64 h).toInt = h.toInt := Int32.toInt_toInt64 h
  have h6 : (5019589575 : Int) / (Int32.toInt64 e).toInt * h.toInt ≤ 5019589575 * 28 := Int.mul_le_mul h3 hh.2 hh.1 (by omega)
  have h7 : 0 ≤ (5019589575 : Int) / (Int32.toInt64 e).toInt * h.toInt := Int.mul_nonneg h4 hh.1
  rw [tm64 (by rw [hd, h5]; omega) (by rw [hd, h5]; omega), hd, h5, hw64]
  rw [hW, hk]
  rw [Int.mul_assoc, Int.mul_comm h.toInt, ← Int.mul_assoc, hdiv]
end EQ6

