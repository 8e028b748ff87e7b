theorem bm32 {z : Int} (h1 : -2147483648 ≤ z) (h2 : z < 2147483648) : z.bmod (2 ^ 32) = z := Int.bmod_eq_of_le (by simp; omega) (by simp; omega)
theorem bm64 {z : Int} (h1 : -9223372036854775808 ≤ z) (h2 : z < 9223372036854775808) : z.bmod (2 ^ 64) = z := Int.bmod_eq_of_le (by simp; omega) (by simp; omega)
theorem ta32 {x y : Int32} (h1 : -2147483648 ≤ x.toInt + y.toInt) (h2 : x.toInt + y.toInt < 2147483648) : (x + y).toInt = x.toInt + y.toInt := by
  rw [Int32.toInt_add]; exact bm32 h1 h2
theorem ts32 {x y : Int32} (h1 : -2147483648 ≤ x.toInt - y.toInt) (h2 : x.toInt - y.toInt < 2147483648) : (x - y).toInt = x.toInt - y.toInt := by
  rw [Int32.toInt_sub]; exact bm32 h1 h2
theorem tm32 {x y : Int32} (h1 : -2147483648 ≤ x.toInt * y.toInt) (h2 : x.toInt * y.toInt < 2147483648) : (x * y).toInt = x.toInt * y.toInt := by
  rw [Int32.toInt_mul]; exact bm32 h1 h2
theorem tn32 {x : Int32} (h : -2147483648 < x.toInt) : (-x).toInt = -x.toInt := by
  have h2 := x.toInt_lt
  rw [Int32.toInt_neg]; exact bm32 (by omega) (by omega)
theorem td32 {x y : Int32} (k : Int) (hk : y.toInt = k) (h0 : 0 < k) (hx : 0 ≤ x.toInt) : (x / y).toInt = x.toInt / k := by
  have h2 := x.toInt_lt
  have h3 : x.toInt / k ≤ x.toInt := Int.ediv_le_self _ hx
  have h4 : 0 ≤ x.toInt / k := Int.ediv_nonneg hx (by omega)
  rw [Int32.toInt_div, hk, Int.tdiv_eq_ediv_of_nonneg hx]
  exact bm32 (by omega) (by omega)
theorem tr32 {x y : Int32} (k : Int) (hk : y.toInt = k) (h0 : 0 < k) (hx : 0 ≤ x.toInt) : (x - x / y * y).toInt = x.toInt % k := by
  have h2 := x.toInt_lt
  have h1 := td32 k hk h0 hx
  have h3 : x.toInt / k * k ≤ x.toInt := Int.ediv_mul_le _ (by omega)
  have h4 : 0 ≤ x.toInt / k := Int.ediv_nonneg hx (by omega)
  have h5 : 0 ≤ x.toInt / k * k := Int.mul_nonneg h4 (by omega)
  have h6 : (x / y * y).toInt = x.toInt / k * k := by
    rw [tm32 (by rw [h1, hk]; omega) (by rw [h1, hk]; omega), h1, hk]
  rw [ts32 (by rw [h6]; omega) (by rw [h6]; omega), h6, Int.emod_def, Int.mul_comm]
/-- the model's numbers are in their ranges -/
def MV (kind figure height skill tired : Nat → Int32) : Prop := (∀ j, j < 6 → (0 ≤ (kind j).toInt ∧ (kind j).toInt ≤ 5) ∧ (0 ≤ (figure j).toInt ∧ (figure j).toInt ≤ 9) ∧ (0 ≤ (height j).toInt ∧ (height j).toInt ≤ 9)) ∧ (∀ j, j < 5 → (0 ≤ (skill j).toInt ∧ (skill j).toInt ≤ 9) ∧ (0 ≤ (tired j).toInt ∧ (tired j).toInt ≤ 99))
theorem plainB {t s : Int32} (ht : 0 ≤ t.toInt ∧ t.toInt ≤ 99) (hs : 0 ≤ s.toInt ∧ s.toInt ≤ 9) : 0 ≤ (((4 : Int32) + (t / (20 : Int32))) - (s / (2 : Int32))).toInt ∧ (((4 : Int32) + (t / (20 : Int32))) - (s / (2 : Int32))).toInt ≤ 8 := by
  have z4 : (4 : Int32).toInt = 4 := rfl
  have d1 := td32 (x := t) (y := 20) 20 rfl (by omega) ht.1
  have d2 := td32 (x := s) (y := 2) 2 rfl (by omega) hs.1
  have a1 := ta32 (x := 4) (y := t / 20) (by omega) (by omega)
  have a2 := ts32 (x := 4 + t / 20) (y := s / 2) (by omega) (by omega)
  omega
/-- an ERROR's own numbers, out of its plain part -/
theorem errParts {P h g : Int32} (hP : 0 ≤ P.toInt ∧ P.toInt ≤ 8) (hh : 0 ≤ h.toInt ∧ h.toInt ≤ 9) (hg : 0 ≤ g.toInt ∧ g.toInt ≤ 9) : (P + (1 : Int32)).toInt = P.toInt + 1 ∧ (P + (2 : Int32)).toInt = P.toInt + 2 ∧ (P + h / (3 : Int32)).toInt = P.toInt + h.toInt / 3 ∧ ((P + (1 : Int32)) / (2 : Int32)).toInt = (P.toInt + 1) / 2 ∧ ((P + h / (3 : Int32)) + g / (4 : Int32)).toInt = P.toInt + h.toInt / 3 + g.toInt / 4 := by
  have z1 : (1 : Int32).toInt = 1 := rfl
  have z2 : (2 : Int32).toInt = 2 := rfl
  have d1 := td32 (x := h) (y := 3) 3 rfl (by omega) hh.1
  have d2 := td32 (x := g) (y := 4) 4 rfl (by omega) hg.1
  have a1 := ta32 (x := P) (y := 1) (by omega) (by omega)
  have a2 := ta32 (x := P) (y := 2) (by omega) (by omega)
  have a3 := ta32 (x := P) (y := h / 3) (by omega) (by omega)
  have a4 := ta32 (x := P + h / 3) (y := g / 4) (by omega) (by omega)
  have a5 := td32 (x := P + 1) (y := 2) 2 rfl (by omega) (by omega)
  refine ⟨by omega, by omega, by omega, by omega, by omega⟩
theorem errB {sk ti ki fi he : Nat → Int32} {t o p : Int32} (hM : MV ki fi he sk ti) (ht : vp_in t 6) (ho : vp_in o 5) : 0 ≤ (f_X5_errorOf sk ti ki fi he t o p).toInt ∧ (f_X5_errorOf sk ti ki fi he t o p).toInt ≤ 13 := by
  have hT := hM.1 _ (vp_lt ht)
  have hO := hM.2 _ (vp_lt ho)
  have hP := plainB hO.2 hO.1
  have hE := errParts hP hT.2.2 hT.2.1
  have z0 : (0 : Int32).toInt = 0 := rfl
  unfold f_X5_errorOf
  generalize (((4 : Int32) + (ti (Int32.toNatClampNeg o) / (20 : Int32))) - (sk (Int32.toNatClampNeg o) / (2 : Int32))) = P at hP hE ⊢
  have hle : (0 : Int32) ≤ P := Int32.le_iff_toInt_le.mpr (by omega)
  rw [if_pos hle]
  (repeat' split) <;> omega
theorem ta64 {x y : Int64} (h1 : -9223372036854775808 ≤ x.toInt + y.toInt) (h2 : x.toInt + y.toInt < 9223372036854775808) : (x + y).toInt = x.toInt + y.toInt := by
  rw [Int64.toInt_add]; exact bm64 h1 h2
theorem ts64 {x y : Int64} (h1 : -9223372036854775808 ≤ x.toInt - y.toInt) (h2 : x.toInt - y.toInt < 9223372036854775808) : (x - y).toInt = x.toInt - y.toInt := by
  rw [Int64.toInt_sub]; exact bm64 h1 h2
theorem tm64 {x y : Int64} (h1 : -9223372036854775808 ≤ x.toInt * y.toInt) (h2 : x.toInt * y.toInt < 9223372036854775808) : (x * y).toInt = x.toInt * y.toInt := by
  rw [Int64.toInt_mul]; exact bm64 h1 h2
theorem td64 {x y : Int64} (h0 : 0 < y.toInt) (hx : 0 ≤ x.toInt) : (x / y).toInt = x.toInt / y.toInt := by
  have h2 := x.toInt_lt
  have h3 : x.toInt / y.toInt ≤ x.toInt := Int.ediv_le_self _ hx
  have h4 : 0 ≤ x.toInt / y.toInt := Int.ediv_nonneg hx (by omega)
  rw [Int64.toInt_div, Int.tdiv_eq_ediv_of_nonneg hx]
  exact bm64 (by omega) (by omega)
theorem tr64 {x y : Int64} (h0 : 0 < y.toInt) (hx : 0 ≤ x.toInt) : (x - x / y * y).toInt = x.toInt % y.toInt := by
  have h2 := x.toInt_lt
  have h1 := td64 h0 hx
  have h3 : x.toInt / y.toInt * y.toInt ≤ x.toInt := Int.ediv_mul_le _ (by omega)
  have h4 : 0 ≤ x.toInt / y.toInt := Int.ediv_nonneg hx (by omega)
  have h5 : 0 ≤ x.toInt / y.toInt * y.toInt := Int.mul_nonneg h4 (by omega)
  have h6 : (x / y * y).toInt = x.toInt / y.toInt * y.toInt := by
    rw [tm64 (by rw [h1]; omega) (by rw [h1]; omega), h1]
  rw [ts64 (by rw [h6]; omega) (by rw [h6]; omega), h6, Int.emod_def, Int.mul_comm]
theorem lcmp_eq {x y : Int64} : lg_cmp x y = 0 ↔ x = y := by
  unfold lg_cmp
  constructor
  · intro h
    split at h
    · exact absurd h (by decide)
    · split at h
      · assumption
      · exact absurd h (by decide)
  · intro h
    subst h
    rw [if_neg (by rw [gt_iff_lt, Int64.lt_iff_toInt_lt]; omega), if_pos rfl]
theorem lcmp_ne {x : Int64} (h : ¬ lg_cmp x 0 = 0) : ¬ x = 0 := fun e => h (lcmp_eq.mpr e)
theorem ne0_toInt {x : Int64} (h : ¬ x = 0) : x.toInt ≠ 0 := fun e => h (Int64.toInt_inj.mp (by rw [e]; rfl))
theorem mul3 {x : Int32} (h : 0 ≤ x.toInt ∧ x.toInt ≤ 1000) : ((3 : Int32) * x).toInt = 3 * x.toInt := by
  have z : (3 : Int32).toInt = 3 := rfl
  rw [tm32 (by rw [z]; omega) (by rw [z]; omega), z]
theorem mul45 {x : Int32} (h : 0 ≤ x.toInt ∧ x.toInt ≤ 1000) : ((45 : Int32) * x).toInt = 45 * x.toInt := by
  have z : (45 : Int32).toInt = 45 := rfl
  rw [tm32 (by rw [z]; omega) (by rw [z]; omega), z]
theorem mul10 {x : Int32} (h : 0 ≤ x.toInt ∧ x.toInt ≤ 1000) : ((10 : Int32) * x).toInt = 10 * x.toInt := by
  have z : (10 : Int32).toInt = 10 := rfl
  rw [tm32 (by rw [z]; omega) (by rw [z]; omega), z]
theorem fb {r : Int32} (h : r = 0 ∨ r = 1) : fits .boolean (.int r) = true := by
  rcases h with rfl | rfl <;> rfl

