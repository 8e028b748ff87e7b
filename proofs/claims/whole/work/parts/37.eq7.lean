/-- parts are in the same order as odds -/
theorem cmp_parts {A p1 w1 h1 p2 w2 h2 : Int} (hA : 0 < A) (e1 : p1 * w1 = A * h1) (e2 : p2 * w2 = A * h2) (hw1 : 0 < w1) (hw2 : 0 < w2) : p1 ≤ p2 ↔ h1 * w2 ≤ h2 * w1 := by
  have a1 : p1 * (w1 * w2) = A * (h1 * w2) := by rw [← Int.mul_assoc, e1, Int.mul_assoc]
  have a2 : p2 * (w1 * w2) = A * (h2 * w1) := by rw [Int.mul_comm w1 w2, ← Int.mul_assoc, e2, Int.mul_assoc]
  have hw : 0 < w1 * w2 := Int.mul_pos hw1 hw2
  constructor
  · intro h
    have h' := Int.mul_le_mul_of_nonneg_right h (Int.le_of_lt hw)
    rw [a1, a2] at h'
    exact Int.le_of_mul_le_mul_left h' hA
  · intro h
    have h' := Int.mul_le_mul_of_nonneg_left h (Int.le_of_lt hA)
    rw [← a1, ← a2] at h'
    exact Int.le_of_mul_le_mul_right h' hw

