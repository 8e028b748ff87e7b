section HB
variable {m_yards m_wind : Int32} {m_place m_pace m_skillOf m_tired m_kind m_figure m_height : Nat → Int32} {v1 v2 v3 : Int32}
theorem hadB_L : ∀ (n : Nat) (v4 v5 : Int32), 0 ≤ v4.toInt → v4.toInt + n < 1000 → 0 ≤ (f_X5_hadMany_L13 m_yards m_wind m_place m_pace m_skillOf m_tired m_kind m_figure m_height v1 v2 v3 n v4 v5).toInt ∧ (f_X5_hadMany_L13 m_yards m_wind m_place m_pace m_skillOf m_tired m_kind m_figure m_height v1 v2 v3 n v4 v5).toInt ≤ v4.toInt + n := by
  intro n
  have z0 : (0 : Int32).toInt = 0 := rfl
  have z1 : (1 : Int32).toInt = 1 := rfl
  induction n with
  | zero => intro v4 v5 h1 h2; rw [f_X5_hadMany_L13]; omega
  | succ n ih =>
    intro v4 v5 h1 h2
    rw [f_X5_hadMany_L13]
    simp only [lt1]
    have a0 := ta32 (x := v4) (y := 0) (by omega) (by omega)
    have a1 := ta32 (x := v4) (y := 1) (by omega) (by omega)
    split
    · omega
    · split
      · have := ih (v4 + 0) (v5 + 1) (by omega) (by omega); omega
      · have := ih (v4 + 1) (v5 + 1) (by omega) (by omega); omega
theorem hadB : 0 ≤ (f_X5_hadMany m_yards m_wind m_place m_pace m_skillOf m_tired m_kind m_figure m_height v1 v2 v3).toInt ∧ (f_X5_hadMany m_yards m_wind m_place m_pace m_skillOf m_tired m_kind m_figure m_height v1 v2 v3).toInt ≤ 28 := by
  have z0 : (0 : Int32).toInt = 0 := rfl
  have h := hadB_L (m_yards := m_yards) (m_wind := m_wind) (m_place := m_place) (m_pace := m_pace) (m_skillOf := m_skillOf) (m_tired := m_tired) (m_kind := m_kind) (m_figure := m_figure) (m_height := m_height) (v1 := v1) (v2 := v2) (v3 := v3) 28 0 (-(f_X5_errorOf m_skillOf m_tired m_kind m_figure m_height v1 v2 v3)) (by omega) (by omega)
  rw [f_X5_hadMany, lt1_def]
  generalize f_X5_hadMany_L13 m_yards m_wind m_place m_pace m_skillOf m_tired m_kind m_figure m_height v1 v2 v3 28 0 (-(f_X5_errorOf m_skillOf m_tired m_kind m_figure m_height v1 v2 v3)) = z at h ⊢
  omega
theorem hadP {r : Int32} (e : f_X5_hadMany m_yards m_wind m_place m_pace m_skillOf m_tired m_kind m_figure m_height v1 v2 v3 = r) : 0 ≤ (Int32.toInt64 r).toInt := by
  rw [Int32.toInt_toInt64, ← e]
  exact hadB.1
theorem eachP {r : Int32} (hM : MV m_kind m_figure m_height m_skillOf m_tired) (ht : vp_in v1 6) (ho : vp_in v2 5) (e : f_X5_eachOf m_skillOf m_tired m_kind m_figure m_height v1 v2 v3 = r) : 0 < (Int32.toInt64 r).toInt := by
  rw [Int32.toInt_toInt64, ← e, eachB hM ht ho]
  have := errB (p := v3) hM ht ho
  omega
theorem partsB (hM : MV m_kind m_figure m_height m_skillOf m_tired) (ht : vp_in v1 6) (ho : vp_in v2 5) : 0 ≤ (f_X5_partsOf m_yards m_wind m_place m_pace m_skillOf m_tired m_kind m_figure m_height v1 v2 v3).toInt ∧ (f_X5_partsOf m_yards m_wind m_place m_pace m_skillOf m_tired m_kind m_figure m_height v1 v2 v3).toInt ≤ 140548508100 := by
  have hh := hadB (m_yards := m_yards) (m_wind := m_wind) (m_place := m_place) (m_pace := m_pace) (m_skillOf := m_skillOf) (m_tired := m_tired) (m_kind := m_kind) (m_figure := m_figure) (m_height := m_height) (v1 := v1) (v2 := v2) (v3 := v3)
  have hp := eachP (v3 := v3) hM ht ho rfl
  unfold f_X5_partsOf lt1
  dsimp only
  generalize f_X5_hadMany m_yards m_wind m_place m_pace m_skillOf m_tired m_kind m_figure m_height v1 v2 v3 = h at hh
  generalize Int32.toInt64 (f_X5_eachOf m_skillOf m_tired m_kind m_figure m_height v1 v2 v3) = w at hp
  have zA : (5019589575 : Int64).toInt = 5019589575 := rfl
  have hd := td64 (x := 5019589575) (y := w) hp (by rw [zA]; omega)
  rw [zA] at hd
  have h3 : (5019589575 : Int) / w.toInt ≤ 5019589575 := Int.ediv_le_self _ (by omega)
  have h4 : 0 ≤ (5019589575 : Int) / w.toInt := Int.ediv_nonneg (by omega) (by omega)
  have h5 : (Int32.toInt64 h).toInt = h.toInt := Int32.toInt_toInt64 h
  have h6 : (5019589575 : Int) / w.toInt * h.toInt ≤ 5019589575 * 28 := Int.mul_le_mul h3 hh.2 hh.1 (by omega)
  have h7 : 0 ≤ (5019589575 : Int) / w.toInt * h.toInt := Int.mul_nonneg h4 hh.1
  rw [tm64 (by rw [hd, h5]; omega) (by rw [hd, h5]; omega), hd, h5]
  omega
end HB
theorem MV_skill {ki fi he sk ti : Nat → Int32} {i : Nat} {x : Int32} (h : MV ki fi he sk ti) (hx : 0 ≤ x.toInt ∧ x.toInt ≤ 9) : MV ki fi he (upd sk i x) ti := by
  refine ⟨h.1, fun j hj => ⟨?_, (h.2 j hj).2⟩⟩
  by_cases e : j = i
  · subst e; rw [pk_us]; exact hx
  · rw [pk_un e]; exact (h.2 j hj).1

