/-- one row passed on: kept into s (k ≠ 0), or put back out of it (k = 0) -/
def pL (N k : Int32) : Nat → Int32 → Int32 → (Nat → Int32) → (Nat → Int32) → Int32 × (Nat → Int32) × (Nat → Int32)
  | 0, _, c, a, s => (c, a, s)
  | n + 1, v, c, a, s => if N ≤ v then (c, a, s) else if k = (0 : Int32) then pL N k n (v + (1 : Int32)) (c + (1 : Int32)) (upd a (Int32.toNatClampNeg v) (s (Int32.toNatClampNeg c))) s else pL N k n (v + (1 : Int32)) (c + (1 : Int32)) a (upd s (Int32.toNatClampNeg c) (a (Int32.toNatClampNeg v)))
theorem clampT {x : Int32} (h : 0 ≤ x.toInt) : (x.toNatClampNeg : Int) = x.toInt := by
  rw [← Int32.toNat_toInt]
  exact Int.toNat_of_nonneg h
theorem pL_keep {N : Int32} (hN : N.toInt ≤ 6) : ∀ (n : Nat) (v c : Int32) (a s : Nat → Int32), (N.toInt - v.toInt).toNat < n → 0 ≤ v.toInt → v.toInt ≤ N.toInt → 0 ≤ c.toInt → c.toInt + (N.toInt - v.toInt) ≤ 90 →
    ∃ c' s', pL N 1 n v c a s = (c', a, s') ∧ c'.toInt = c.toInt + (N.toInt - v.toInt) ∧ (∀ j : Nat, v.toInt ≤ j → (j : Int) < N.toInt → s' (c.toInt + (j - v.toInt)).toNat = a j) ∧ ∀ j : Nat, ((j : Int) < c.toInt ∨ c.toInt + (N.toInt - v.toInt) ≤ j) → s' j = s j := by
  intro n
  induction n with
  | zero => intro v c a s h; omega
  | succ n ih =>
    intro v c a s hm hv hvN hc h90
    rw [pL]
    by_cases hle : N ≤ v
    · rw [if_pos hle]
      have q := Int32.le_iff_toInt_le.mp hle
      exact ⟨c, s, rfl, by omega, fun j h1 h2 => by omega, fun j _ => rfl⟩
    · rw [if_neg hle, if_neg (by decide)]
      have q := mt Int32.le_iff_toInt_le.mpr hle
      have z1 : (1 : Int32).toInt = 1 := rfl
      have av := ta32 (x := v) (y := 1) (by omega) (by omega)
      have ac := ta32 (x := c) (y := 1) (by omega) (by omega)
      have kv := clampT hv
      have kc := clampT hc
      obtain ⟨c', s', e, h1, h2, h3⟩ := ih (v + 1) (c + 1) a (upd s c.toNatClampNeg (a v.toNatClampNeg)) (by omega) (by omega) (by omega) (by omega) (by omega)
      refine ⟨c', s', e, by omega, fun j hj1 hj2 => ?_, fun j hj => ?_⟩
      · by_cases hjv : (j : Int) = v.toInt
        · rw [h3 _ (Or.inl (by omega)), show (c.toInt + (j - v.toInt)).toNat = c.toNatClampNeg by omega, pk_us, show v.toNatClampNeg = j by omega]
        · rw [← h2 j (by omega) hj2]
          congr 1
          omega
      · rw [h3 j (by omega), pk_un (by omega)]
theorem pL_back {N : Int32} (hN : N.toInt ≤ 6) : ∀ (n : Nat) (v c : Int32) (a s : Nat → Int32), (N.toInt - v.toInt).toNat < n → 0 ≤ v.toInt → v.toInt ≤ N.toInt → 0 ≤ c.toInt → c.toInt + (N.toInt - v.toInt) ≤ 90 →
    ∃ c' a', pL N 0 n v c a s = (c', a', s) ∧ c'.toInt = c.toInt + (N.toInt - v.toInt) ∧ (∀ j : Nat, v.toInt ≤ j → (j : Int) < N.toInt → a' j = s (c.toInt + (j - v.toInt)).toNat) ∧ ∀ j : Nat, (j : Int) < v.toInt → a' j = a j := by
  intro n
  induction n with
  | zero => intro v c a s h; omega
  | succ n ih =>
    intro v c a s hm hv hvN hc h90
    rw [pL]
    by_cases hle : N ≤ v
    · rw [if_pos hle]
      have q := Int32.le_iff_toInt_le.mp hle
      exact ⟨c, a, rfl, by omega, fun j h1 h2 => by omega, fun j _ => rfl⟩
    · rw [if_neg hle, if_pos rfl]
      have q := mt Int32.le_iff_toInt_le.mpr hle
      have z1 : (1 : Int32).toInt = 1 := rfl
      have av := ta32 (x := v) (y := 1) (by omega) (by omega)
      have ac := ta32 (x := c) (y := 1) (by omega) (by omega)
      have kv := clampT hv
      have kc := clampT hc
      obtain ⟨c', a', e, h1, h2, h3⟩ := ih (v + 1) (c + 1) (upd a v.toNatClampNeg (s c.toNatClampNeg)) s (by omega) (by omega) (by omega) (by omega) (by omega)
      refine ⟨c', a', e, by omega, fun j hj1 hj2 => ?_, fun j hj => ?_⟩
      · by_cases hjv : (j : Int) = v.toInt
        · rw [h3 j (by omega), show j = v.toNatClampNeg by omega, pk_us]
          congr 1
          omega
        · rw [h2 j (by omega) hj2]
          congr 1
          omega
      · rw [h3 j (by omega), pk_un (by omega)]
theorem pL_place (k : Int32) : ∀ (n : Nat) (v c : Int32) (a s : Nat → Int32), f_X5_passes_place_L2 k n v c a s = pL 5 k n v c a s := by
  intro n
  induction n with
  | zero => intros; rfl
  | succ n ih => intro v c a s; rw [f_X5_passes_place_L2, pL]; simp only [ih]
theorem kp_place (c : Int32) (a s : Nat → Int32) (hc : 0 ≤ c.toInt ∧ c.toInt + 5 ≤ 90) : ∃ c' s', f_X5_passes_place 1 c a s = (c', a, s') ∧ c'.toInt = c.toInt + 5 ∧ (∀ j : Nat, j < 5 → s' (c.toInt.toNat + j) = a j) ∧ ∀ j : Nat, (j < c.toInt.toNat ∨ c.toInt.toNat + 5 ≤ j) → s' j = s j := by
  have zn : (5 : Int32).toInt = 5 := rfl
  have z0 : (0 : Int32).toInt = 0 := rfl
  obtain ⟨c', s', e, h1, h2, h3⟩ := pL_keep (N := 5) (by rw [zn]; omega) 6 0 c a s (by omega) (by omega) (by omega) hc.1 (by omega)
  refine ⟨c', s', by unfold f_X5_passes_place; rw [pL_place]; exact e, by omega, fun j hj => ?_, fun j hj => h3 j (by omega)⟩
  rw [← h2 j (by omega) (by omega)]
  congr 1
  omega
theorem bk_place (c : Int32) (a s : Nat → Int32) (hc : 0 ≤ c.toInt ∧ c.toInt + 5 ≤ 90) : ∃ c' a', f_X5_passes_place 0 c a s = (c', a', s) ∧ c'.toInt = c.toInt + 5 ∧ ∀ j : Nat, j < 5 → a' j = s (c.toInt.toNat + j) := by
  have zn : (5 : Int32).toInt = 5 := rfl
  have z0 : (0 : Int32).toInt = 0 := rfl
  obtain ⟨c', a', e, h1, h2, h3⟩ := pL_back (N := 5) (by rw [zn]; omega) 6 0 c a s (by omega) (by omega) (by omega) hc.1 (by omega)
  refine ⟨c', a', by unfold f_X5_passes_place; rw [pL_place]; exact e, by omega, fun j hj => ?_⟩
  rw [h2 j (by omega) (by omega)]
  congr 1
  omega
theorem pL_pace (k : Int32) : ∀ (n : Nat) (v c : Int32) (a s : Nat → Int32), f_X5_passes_pace_L2 k n v c a s = pL 5 k n v c a s := by
  intro n
  induction n with
  | zero => intros; rfl
  | succ n ih => intro v c a s; rw [f_X5_passes_pace_L2, pL]; simp only [ih]
theorem kp_pace (c : Int32) (a s : Nat → Int32) (hc : 0 ≤ c.toInt ∧ c.toInt + 5 ≤ 90) : ∃ c' s', f_X5_passes_pace 1 c a s = (c', a, s') ∧ c'.toInt = c.toInt + 5 ∧ (∀ j : Nat, j < 5 → s' (c.toInt.toNat + j) = a j) ∧ ∀ j : Nat, (j < c.toInt.toNat ∨ c.toInt.toNat + 5 ≤ j) → s' j = s j := by
  have zn : (5 : Int32).toInt = 5 := rfl
  have z0 : (0 : Int32).toInt = 0 := rfl
  obtain ⟨c', s', e, h1, h2, h3⟩ := pL_keep (N := 5) (by rw [zn]; omega) 6 0 c a s (by omega) (by omega) (by omega) hc.1 (by omega)
  refine ⟨c', s', by unfold f_X5_passes_pace; rw [pL_pace]; exact e, by omega, fun j hj => ?_, fun j hj => h3 j (by omega)⟩
  rw [← h2 j (by omega) (by omega)]
  congr 1
  omega
theorem bk_pace (c : Int32) (a s : Nat → Int32) (hc : 0 ≤ c.toInt ∧ c.toInt + 5 ≤ 90) : ∃ c' a', f_X5_passes_pace 0 c a s = (c', a', s) ∧ c'.toInt = c.toInt + 5 ∧ ∀ j : Nat, j < 5 → a' j = s (c.toInt.toNat + j) := by
  have zn : (5 : Int32).toInt = 5 := rfl
  have z0 : (0 : Int32).toInt = 0 := rfl
  obtain ⟨c', a', e, h1, h2, h3⟩ := pL_back (N := 5) (by rw [zn]; omega) 6 0 c a s (by omega) (by omega) (by omega) hc.1 (by omega)
  refine ⟨c', a', by unfold f_X5_passes_pace; rw [pL_pace]; exact e, by omega, fun j hj => ?_⟩
  rw [h2 j (by omega) (by omega)]
  congr 1
  omega
theorem pL_skillOf (k : Int32) : ∀ (n : Nat) (v c : Int32) (a s : Nat → Int32), f_X5_passes_skillOf_L2 k n v c a s = pL 5 k n v c a s := by
  intro n
  induction n with
  | zero => intros; rfl
  | succ n ih => intro v c a s; rw [f_X5_passes_skillOf_L2, pL]; simp only [ih]
theorem kp_skillOf (c : Int32) (a s : Nat → Int32) (hc : 0 ≤ c.toInt ∧ c.toInt + 5 ≤ 90) : ∃ c' s', f_X5_passes_skillOf 1 c a s = (c', a, s') ∧ c'.toInt = c.toInt + 5 ∧ (∀ j : Nat, j < 5 → s' (c.toInt.toNat + j) = a j) ∧ ∀ j : Nat, (j < c.toInt.toNat ∨ c.toInt.toNat + 5 ≤ j) → s' j = s j := by
  have zn : (5 : Int32).toInt = 5 := rfl
  have z0 : (0 : Int32).toInt = 0 := rfl
  obtain ⟨c', s', e, h1, h2, h3⟩ := pL_keep (N := 5) (by rw [zn]; omega) 6 0 c a s (by omega) (by omega) (by omega) hc.1 (by omega)
  refine ⟨c', s', by unfold f_X5_passes_skillOf; rw [pL_skillOf]; exact e, by omega, fun j hj => ?_, fun j hj => h3 j (by omega)⟩
  rw [← h2 j (by omega) (by omega)]
  congr 1
  omega
theorem bk_skillOf (c : Int32) (a s : Nat → Int32) (hc : 0 ≤ c.toInt ∧ c.toInt + 5 ≤ 90) : ∃ c' a', f_X5_passes_skillOf 0 c a s = (c', a', s) ∧ c'.toInt = c.toInt + 5 ∧ ∀ j : Nat, j < 5 → a' j = s (c.toInt.toNat + j) := by
  have zn : (5 : Int32).toInt = 5 := rfl
  have z0 : (0 : Int32).toInt = 0 := rfl
  obtain ⟨c', a', e, h1, h2, h3⟩ := pL_back (N := 5) (by rw [zn]; omega) 6 0 c a s (by omega) (by omega) (by omega) hc.1 (by omega)
  refine ⟨c', a', by unfold f_X5_passes_skillOf; rw [pL_skillOf]; exact e, by omega, fun j hj => ?_⟩
  rw [h2 j (by omega) (by omega)]
  congr 1
  omega
theorem pL_tired (k : Int32) : ∀ (n : Nat) (v c : Int32) (a s : Nat → Int32), f_X5_passes_tired_L2 k n v c a s = pL 5 k n v c a s := by
  intro n
  induction n with
  | zero => intros; rfl
  | succ n ih => intro v c a s; rw [f_X5_passes_tired_L2, pL]; simp only [ih]
theorem kp_tired (c : Int32) (a s : Nat → Int32) (hc : 0 ≤ c.toInt ∧ c.toInt + 5 ≤ 90) : ∃ c' s', f_X5_passes_tired 1 c a s = (c', a, s') ∧ c'.toInt = c.toInt + 5 ∧ (∀ j : Nat, j < 5 → s' (c.toInt.toNat + j) = a j) ∧ ∀ j : Nat, (j < c.toInt.toNat ∨ c.toInt.toNat + 5 ≤ j) → s' j = s j := by
  have zn : (5 : Int32).toInt = 5 := rfl
  have z0 : (0 : Int32).toInt = 0 := rfl
  obtain ⟨c', s', e, h1, h2, h3⟩ := pL_keep (N := 5) (by rw [zn]; omega) 6 0 c a s (by omega) (by omega) (by omega) hc.1 (by omega)
  refine ⟨c', s', by unfold f_X5_passes_tired; rw [pL_tired]; exact e, by omega, fun j hj => ?_, fun j hj => h3 j (by omega)⟩
  rw [← h2 j (by omega) (by omega)]
  congr 1
  omega
theorem bk_tired (c : Int32) (a s : Nat → Int32) (hc : 0 ≤ c.toInt ∧ c.toInt + 5 ≤ 90) : ∃ c' a', f_X5_passes_tired 0 c a s = (c', a', s) ∧ c'.toInt = c.toInt + 5 ∧ ∀ j : Nat, j < 5 → a' j = s (c.toInt.toNat + j) := by
  have zn : (5 : Int32).toInt = 5 := rfl
  have z0 : (0 : Int32).toInt = 0 := rfl
  obtain ⟨c', a', e, h1, h2, h3⟩ := pL_back (N := 5) (by rw [zn]; omega) 6 0 c a s (by omega) (by omega) (by omega) hc.1 (by omega)
  refine ⟨c', a', by unfold f_X5_passes_tired; rw [pL_tired]; exact e, by omega, fun j hj => ?_⟩
  rw [h2 j (by omega) (by omega)]
  congr 1
  omega
theorem pL_kind (k : Int32) : ∀ (n : Nat) (v c : Int32) (a s : Nat → Int32), f_X5_passes_kind_L2 k n v c a s = pL 6 k n v c a s := by
  intro n
  induction n with
  | zero => intros; rfl
  | succ n ih => intro v c a s; rw [f_X5_passes_kind_L2, pL]; simp only [ih]
theorem kp_kind (c : Int32) (a s : Nat → Int32) (hc : 0 ≤ c.toInt ∧ c.toInt + 6 ≤ 90) : ∃ c' s', f_X5_passes_kind 1 c a s = (c', a, s') ∧ c'.toInt = c.toInt + 6 ∧ (∀ j : Nat, j < 6 → s' (c.toInt.toNat + j) = a j) ∧ ∀ j : Nat, (j < c.toInt.toNat ∨ c.toInt.toNat + 6 ≤ j) → s' j = s j := by
  have zn : (6 : Int32).toInt = 6 := rfl
  have z0 : (0 : Int32).toInt = 0 := rfl
  obtain ⟨c', s', e, h1, h2, h3⟩ := pL_keep (N := 6) (by rw [zn]; omega) 7 0 c a s (by omega) (by omega) (by omega) hc.1 (by omega)
  refine ⟨c', s', by unfold f_X5_passes_kind; rw [pL_kind]; exact e, by omega, fun j hj => ?_, fun j hj => h3 j (by omega)⟩
  rw [← h2 j (by omega) (by omega)]
  congr 1
  omega
theorem bk_kind (c : Int32) (a s : Nat → Int32) (hc : 0 ≤ c.toInt ∧ c.toInt + 6 ≤ 90) : ∃ c' a', f_X5_passes_kind 0 c a s = (c', a', s) ∧ c'.toInt = c.toInt + 6 ∧ ∀ j : Nat, j < 6 → a' j = s (c.toInt.toNat + j) := by
  have zn : (6 : Int32).toInt = 6 := rfl
  have z0 : (0 : Int32).toInt = 0 := rfl
  obtain ⟨c', a', e, h1, h2, h3⟩ := pL_back (N := 6) (by rw [zn]; omega) 7 0 c a s (by omega) (by omega) (by omega) hc.1 (by omega)
  refine ⟨c', a', by unfold f_X5_passes_kind; rw [pL_kind]; exact e, by omega, fun j hj => ?_⟩
  rw [h2 j (by omega) (by omega)]
  congr 1
  omega
theorem pL_figure (k : Int32) : ∀ (n : Nat) (v c : Int32) (a s : Nat → Int32), f_X5_passes_figure_L2 k n v c a s = pL 6 k n v c a s := by
  intro n
  induction n with
  | zero => intros; rfl
  | succ n ih => intro v c a s; rw [f_X5_passes_figure_L2, pL]; simp only [ih]
theorem kp_figure (c : Int32) (a s : Nat → Int32) (hc : 0 ≤ c.toInt ∧ c.toInt + 6 ≤ 90) : ∃ c' s', f_X5_passes_figure 1 c a s = (c', a, s') ∧ c'.toInt = c.toInt + 6 ∧ (∀ j : Nat, j < 6 → s' (c.toInt.toNat + j) = a j) ∧ ∀ j : Nat, (j < c.toInt.toNat ∨ c.toInt.toNat + 6 ≤ j) → s' j = s j := by
  have zn : (6 : Int32).toInt = 6 := rfl
  have z0 : (0 : Int32).toInt = 0 := rfl
  obtain ⟨c', s', e, h1, h2, h3⟩ := pL_keep (N := 6) (by rw [zn]; omega) 7 0 c a s (by omega) (by omega) (by omega) hc.1 (by omega)
  refine ⟨c', s', by unfold f_X5_passes_figure; rw [pL_figure]; exact e, by omega, fun j hj => ?_, fun j hj => h3 j (by omega)⟩
  rw [← h2 j (by omega) (by omega)]
  congr 1
  omega
theorem bk_figure (c : Int32) (a s : Nat → Int32) (hc : 0 ≤ c.toInt ∧ c.toInt + 6 ≤ 90) : ∃ c' a', f_X5_passes_figure 0 c a s = (c', a', s) ∧ c'.toInt = c.toInt + 6 ∧ ∀ j : Nat, j < 6 → a' j = s (c.toInt.toNat + j) := by
  have zn : (6 : Int32).toInt = 6 := rfl
  have z0 : (0 : Int32).toInt = 0 := rfl
  obtain ⟨c', a', e, h1, h2, h3⟩ := pL_back (N := 6) (by rw [zn]; omega) 7 0 c a s (by omega) (by omega) (by omega) hc.1 (by omega)
  refine ⟨c', a', by unfold f_X5_passes_figure; rw [pL_figure]; exact e, by omega, fun j hj => ?_⟩
  rw [h2 j (by omega) (by omega)]
  congr 1
  omega
theorem pL_height (k : Int32) : ∀ (n : Nat) (v c : Int32) (a s : Nat → Int32), f_X5_passes_height_L2 k n v c a s = pL 6 k n v c a s := by
  intro n
  induction n with
  | zero => intros; rfl
  | succ n ih => intro v c a s; rw [f_X5_passes_height_L2, pL]; simp only [ih]
theorem kp_height (c : Int32) (a s : Nat → Int32) (hc : 0 ≤ c.toInt ∧ c.toInt + 6 ≤ 90) : ∃ c' s', f_X5_passes_height 1 c a s = (c', a, s') ∧ c'.toInt = c.toInt + 6 ∧ (∀ j : Nat, j < 6 → s' (c.toInt.toNat + j) = a j) ∧ ∀ j : Nat, (j < c.toInt.toNat ∨ c.toInt.toNat + 6 ≤ j) → s' j = s j := by
  have zn : (6 : Int32).toInt = 6 := rfl
  have z0 : (0 : Int32).toInt = 0 := rfl
  obtain ⟨c', s', e, h1, h2, h3⟩ := pL_keep (N := 6) (by rw [zn]; omega) 7 0 c a s (by omega) (by omega) (by omega) hc.1 (by omega)
  refine ⟨c', s', by unfold f_X5_passes_height; rw [pL_height]; exact e, by omega, fun j hj => ?_, fun j hj => h3 j (by omega)⟩
  rw [← h2 j (by omega) (by omega)]
  congr 1
  omega
theorem bk_height (c : Int32) (a s : Nat → Int32) (hc : 0 ≤ c.toInt ∧ c.toInt + 6 ≤ 90) : ∃ c' a', f_X5_passes_height 0 c a s = (c', a', s) ∧ c'.toInt = c.toInt + 6 ∧ ∀ j : Nat, j < 6 → a' j = s (c.toInt.toNat + j) := by
  have zn : (6 : Int32).toInt = 6 := rfl
  have z0 : (0 : Int32).toInt = 0 := rfl
  obtain ⟨c', a', e, h1, h2, h3⟩ := pL_back (N := 6) (by rw [zn]; omega) 7 0 c a s (by omega) (by omega) (by omega) hc.1 (by omega)
  refine ⟨c', a', by unfold f_X5_passes_height; rw [pL_height]; exact e, by omega, fun j hj => ?_⟩
  rw [h2 j (by omega) (by omega)]
  congr 1
  omega
theorem kp_one (c v : Int32) (s : Nat → Int32) (hc : 0 ≤ c.toInt ∧ c.toInt + 1 ≤ 90) : ∃ c' s', f_X5_passOne 1 c s v = (v, c', s') ∧ c'.toInt = c.toInt + 1 ∧ s' c.toInt.toNat = v ∧ ∀ j : Nat, j ≠ c.toInt.toNat → s' j = s j := by
  have z1 : (1 : Int32).toInt = 1 := rfl
  have kc := clampT hc.1
  refine ⟨c + 1, upd s c.toNatClampNeg v, by unfold f_X5_passOne; rw [if_neg (by decide)], ?_, ?_, fun j hj => pk_un (by omega)⟩
  · rw [ta32 (by omega) (by omega), z1]
  · rw [show c.toInt.toNat = c.toNatClampNeg by omega, pk_us]
theorem bk_one (c v : Int32) (s : Nat → Int32) (hc : 0 ≤ c.toInt ∧ c.toInt + 1 ≤ 90) : ∃ c', f_X5_passOne 0 c s v = (s c.toInt.toNat, c', s) ∧ c'.toInt = c.toInt + 1 := by
  have z1 : (1 : Int32).toInt = 1 := rfl
  have kc := clampT hc.1
  refine ⟨c + 1, by unfold f_X5_passOne; rw [if_pos rfl, show c.toInt.toNat = c.toNatClampNeg by omega], ?_⟩
  rw [ta32 (by omega) (by omega), z1]

