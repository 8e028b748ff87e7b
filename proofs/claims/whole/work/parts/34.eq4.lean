theorem nat_half {g l m : Nat} (hl : 0 < l) (hle : l ≤ g) (h : g * l < 2 ^ (m + 1)) : l * (g % l) < 2 ^ m := by
  have h1 : g % l < l := Nat.mod_lt _ hl
  have h2 : l * (g / l) + g % l = g := Nat.div_add_mod g l
  have h3 : 1 ≤ g / l := (Nat.le_div_iff_mul_le hl).mpr (by omega)
  have h4 : l * 1 ≤ l * (g / l) := Nat.mul_le_mul_left l h3
  have h5 : 2 * (g % l) ≤ g := by omega
  have h6 : l * (2 * (g % l)) ≤ l * g := Nat.mul_le_mul_left l h5
  have h7 : l * g = g * l := Nat.mul_comm l g
  have h8 : l * (2 * (g % l)) = 2 * (l * (g % l)) := by rw [← Nat.mul_assoc, Nat.mul_comm l 2, Nat.mul_assoc]
  have h9 : 2 ^ (m + 1) = 2 * 2 ^ m := by rw [Nat.pow_succ, Nat.mul_comm]
  omega
theorem emod_toNat {x y : Int} (hx : 0 ≤ x) (hy : 0 ≤ y) : (x % y).toNat = x.toNat % y.toNat := by
  obtain ⟨a, ha⟩ := Int.eq_ofNat_of_zero_le hx
  obtain ⟨b, hb⟩ := Int.eq_ofNat_of_zero_le hy
  rw [ha, hb]
  rfl
theorem gcd_step (g l : Nat) : Nat.gcd l (g % l) = Nat.gcd g l := by
  rw [Nat.gcd_comm g l, Nat.gcd_rec l g, Nat.gcd_comm]
theorem cd_L : ∀ (n m : Nat) (g l : Int64) (i : Int32), 0 ≤ g.toInt → 0 ≤ l.toInt → l.toInt ≤ g.toInt → g.toInt.toNat * l.toInt.toNat < 2 ^ m → 0 ≤ i.toInt → i.toInt + m + 1 ≤ 200 → ((200 : Int) - i.toInt).toNat < n → (f_X2_commonDivisor_L9 n g l i).toInt = (Nat.gcd g.toInt.toNat l.toInt.toNat : Int) := by
  intro n
  have z200 : (200 : Int32).toInt = 200 := rfl
  have z1 : (1 : Int32).toInt = 1 := rfl
  induction n with
  | zero => intro m g l i _ _ _ _ _ _ h; omega
  | succ n ih =>
    intro m g l i hg hl hle hp hi hm hn
    rw [f_X2_commonDivisor_L9]
    rw [if_neg (fun h => by have q := Int32.le_iff_toInt_le.mp h; omega)]
    by_cases hc : lg_cmp l 0 = 0
    · have e := lcmp_eq.mp hc
      subst e
      rw [if_pos hc, show (0 : Int64).toInt.toNat = 0 from rfl, Nat.gcd_zero_right]
      omega
    · rw [if_neg hc]
      have hne := ne0_toInt (lcmp_ne hc)
      have hpos : 0 < l.toInt := by omega
      have hr := tr64 (x := g) hpos hg
      have hb := Int.emod_nonneg g.toInt (show l.toInt ≠ 0 by omega)
      have hl2 := Int.emod_lt_of_pos g.toInt hpos
      have ai := ta32 (x := i) (y := 1) (by omega) (by omega)
      have e1 := emod_toNat hg hl
      cases m with
      | zero =>
        exfalso
        have h1 : 1 * 1 ≤ g.toInt.toNat * l.toInt.toNat := Nat.mul_le_mul (by omega) (by omega)
        omega
      | succ m =>
        have hh := nat_half (g := g.toInt.toNat) (l := l.toInt.toNat) (m := m) (by omega) (by omega) hp
        rw [ih m l _ _ hl (by omega) (by omega) (by rw [hr, e1]; exact hh) (by omega) (by omega) (by omega), hr, e1, gcd_step]
theorem cd_gcd {a b : Int64} (ha : 0 ≤ a.toInt) (hb : 0 ≤ b.toInt) : (f_X2_commonDivisor a b).toInt = (Nat.gcd a.toInt.toNat b.toInt.toNat : Int) := by
  have z0 : (0 : Int32).toInt = 0 := rfl
  have z1 : (1 : Int32).toInt = 1 := rfl
  have z200 : (200 : Int32).toInt = 200 := rfl
  have l1 := a.toInt_lt
  have l2 := b.toInt_lt
  unfold f_X2_commonDivisor
  by_cases hab : a.toInt ≤ b.toInt
  · have hp : b.toInt.toNat * a.toInt.toNat < 2 ^ 126 := by
      have h1 : b.toInt.toNat < 2 ^ 63 := by omega
      have h2 : a.toInt.toNat < 2 ^ 63 := by omega
      have h3 := Nat.mul_lt_mul'' h1 h2
      rw [← Nat.pow_add] at h3
      exact h3
    rw [cd_L 201 126 b a 0 hb ha hab hp (by omega) (by omega) (by omega), Nat.gcd_comm]
  · rw [f_X2_commonDivisor_L9, if_neg (by decide)]
    by_cases hc : lg_cmp a 0 = 0
    · have e := lcmp_eq.mp hc
      subst e
      exact absurd (show (0 : Int64).toInt ≤ b.toInt from hb) hab
    · rw [if_neg hc]
      have hpos : 0 < a.toInt := by omega
      have hr := tr64 (x := b) hpos hb
      have hm := Int.emod_nonneg b.toInt (show a.toInt ≠ 0 by omega)
      have hl2 := Int.emod_lt_of_pos b.toInt hpos
      have e1 := emod_toNat hb ha
      have hp : a.toInt.toNat * (b - b / a * a).toInt.toNat < 2 ^ 126 := by
        have h1 : a.toInt.toNat < 2 ^ 63 := by omega
        have h2 : (b - b / a * a).toInt.toNat < 2 ^ 63 := by omega
        have h3 := Nat.mul_lt_mul'' h1 h2
        rw [← Nat.pow_add] at h3
        exact h3
      have ai := ta32 (x := (0 : Int32)) (y := 1) (by omega) (by omega)
      rw [cd_L 200 126 a _ _ ha (by omega) (by omega) hp (by omega) (by omega) (by omega), hr, e1, gcd_step, Nat.gcd_comm]

