theorem tdAbs {x y : Int32} (k : Int) (hk : y.toInt = k) (h0 : 0 < k) (hx : -1000000 ≤ x.toInt ∧ x.toInt ≤ 1000000) : -1000000 ≤ (x / y).toInt ∧ (x / y).toInt ≤ 1000000 ∧ (x / y).toInt.natAbs ≤ x.toInt.natAbs := by
  have h1 : (x.toInt.tdiv k).natAbs = x.toInt.natAbs / k.natAbs := Int.natAbs_tdiv _ _
  have h2 : x.toInt.natAbs / k.natAbs ≤ x.toInt.natAbs := Nat.div_le_self _ _
  have h3 : (x / y).toInt = x.toInt.tdiv k := by
    rw [Int32.toInt_div, hk]
    exact bm32 (by omega) (by omega)
  rw [h3]
  omega
theorem iteP {c : Prop} [Decidable c] {a b : Int32} (ha : -1000 ≤ a.toInt ∧ a.toInt ≤ 1000) (hb : -1000 ≤ b.toInt ∧ b.toInt ≤ 1000) : -1000 ≤ (if c then a else b).toInt ∧ (if c then a else b).toInt ≤ 1000 := by
  by_cases h : c
  · rw [if_pos h]; exact ha
  · rw [if_neg h]; exact hb
theorem leaf2 {q : Int32} (h : -30 ≤ q.toInt ∧ q.toInt ≤ 30) : ((2 : Int32) * q).toInt = 2 * q.toInt := by
  have z2 : (2 : Int32).toInt = 2 := rfl
  rw [tm32 (by rw [z2]; omega) (by rw [z2]; omega), z2]
theorem leaf3 {q : Int32} (h : -30 ≤ q.toInt ∧ q.toInt ≤ 30) : ((2 : Int32) * q + (1 : Int32)).toInt = 2 * q.toInt + 1 := by
  have z1 : (1 : Int32).toInt = 1 := rfl
  rw [ta32 (by rw [leaf2 h, z1]; omega) (by rw [leaf2 h, z1]; omega), leaf2 h, z1]
theorem leaf4 {q : Int32} (h : -30 ≤ q.toInt ∧ q.toInt ≤ 30) : ((2 : Int32) * q + (-1 : Int32)).toInt = 2 * q.toInt + -1 := by
  have z1 : (-1 : Int32).toInt = -1 := rfl
  rw [ta32 (by rw [leaf2 h, z1]; omega) (by rw [leaf2 h, z1]; omega), leaf2 h, z1]
theorem bd {x : Int} {y : Int32} (e : y.toInt = x) (h1 : -1000 ≤ x) (h2 : x ≤ 1000) : -1000 ≤ y.toInt ∧ y.toInt ≤ 1000 := ⟨by rw [e]; exact h1, by rw [e]; exact h2⟩
section EQ3
variable {ki fi he : Nat → Int32} {t w : Int32}
theorem airB (hb : 0 ≤ (he (Int32.toNatClampNeg t)).toInt ∧ (he (Int32.toNatClampNeg t)).toInt ≤ 9) : 0 ≤ (f_X5_airOf ki he t).toInt ∧ (f_X5_airOf ki he t).toInt ≤ 10 := by
  unfold f_X5_airOf
  generalize he (Int32.toNatClampNeg t) = h at hb ⊢
  have z1 : (1 : Int32).toInt = 1 := rfl
  have d := td32 (x := h) (y := 2) 2 rfl (by omega) hb.1
  have a1 := ta32 (x := h) (y := 1) (by omega) (by omega)
  have a2 := ta32 (x := h / 2) (y := 1) (by omega) (by omega)
  have a3 := ta32 (x := (1 : Int32)) (y := 1) (by omega) (by omega)
  (repeat' split) <;> omega
theorem driftB (hb : 0 ≤ (he (Int32.toNatClampNeg t)).toInt ∧ (he (Int32.toNatClampNeg t)).toInt ≤ 9) (hw : -3 ≤ w.toInt ∧ w.toInt ≤ 3) : -1000 ≤ (f_X5_driftOf w ki fi he t).toInt ∧ (f_X5_driftOf w ki fi he t).toInt ≤ 1000 := by
  have hA := airB (ki := ki) hb
  unfold f_X5_driftOf
  simp only [lt1]
  generalize f_X5_airOf ki he t = a at hA ⊢
  have z0 : (0 : Int32).toInt = 0 := rfl
  have z1 : (1 : Int32).toInt = 1 := rfl
  have z2 : (2 : Int32).toInt = 2 := rfl
  have zm : (-1 : Int32).toInt = -1 := rfl
  have h1 : w.toInt * a.toInt ≤ 30 := by
    have e1 : w.toInt * a.toInt ≤ 3 * a.toInt := Int.mul_le_mul_of_nonneg_right hw.2 hA.1
    omega
  have h2 : -30 ≤ w.toInt * a.toInt := by
    have e1 : (-3) * a.toInt ≤ w.toInt * a.toInt := Int.mul_le_mul_of_nonneg_right hw.1 hA.1
    omega
  have m1 := tm32 (x := w) (y := a) (by omega) (by omega)
  have d1 : -30 ≤ (w * a / 4).toInt ∧ (w * a / 4).toInt ≤ 30 := by
    have := tdAbs (x := w * a) (y := 4) 4 rfl (by omega) (by omega)
    omega
  have d2 : -30 ≤ (w * a / 4 / 2).toInt ∧ (w * a / 4 / 2).toInt ≤ 30 := by
    have := tdAbs (x := w * a / 4) (y := 2) 2 rfl (by omega) (by omega)
    omega
  clear m1 h1 h2
  generalize w * a / 4 = q at d1 d2 ⊢
  have l0 : -1000 ≤ (0 : Int32).toInt ∧ (0 : Int32).toInt ≤ 1000 := by decide
  have l2 := bd (leaf2 d1) (by omega) (by omega)
  have l3 := bd (leaf3 d1) (by omega) (by omega)
  have l4 := bd (leaf4 d1) (by omega) (by omega)
  have l5 : -1000 ≤ (q / 2).toInt ∧ (q / 2).toInt ≤ 1000 := ⟨by omega, by omega⟩
  have l6 : -1000 ≤ q.toInt ∧ q.toInt ≤ 1000 := ⟨by omega, by omega⟩
  refine iteP l0 (iteP l2 (iteP l0 (iteP (iteP l3 l4) (iteP l5 l6))))
end EQ3
/-- what the numbers of a lane are in: reference's words -/
def LV (yd wd pc tc bl : Int32) (pl pa sk ti ki fi he : Nat → Int32) : Prop := (3 ≤ yd.toInt ∧ yd.toInt ≤ 12) ∧ (-3 ≤ wd.toInt ∧ wd.toInt ≤ 3) ∧ (0 ≤ pc.toInt ∧ pc.toInt ≤ 5) ∧ (0 ≤ tc.toInt ∧ tc.toInt ≤ 6) ∧ (bl.toInt = -9 ∨ (0 ≤ bl.toInt ∧ bl.toInt < pc.toInt)) ∧ (∀ j : Nat, j < 5 → (0 ≤ (pl j).toInt ∧ (pl j).toInt ≤ 11) ∧ 0 ≤ (pa j).toInt ∧ (pa j).toInt ≤ 3) ∧ MV ki fi he sk ti
theorem eq_waysHad {tr : Nat → Option Nat} {tk tf th ki fi he sk ti pl pa : Nat → Int32} {tc t one o yd wd pc bl : Int32} (h : TRel tr tk tf th ki fi he tc) (hL : LV yd wd pc tc bl pl pa sk ti ki fi he) (ht : 0 ≤ t.toInt ∧ t.toInt < tc.toInt) (h1 : vp_in one 5) (h2 : vp_in o 5) : f_X0_waysHad yd wd pl pa sk ti tr tk tf th t one o = f_X5_hadMany yd wd pl pa sk ti ki fi he t one o := by
  obtain ⟨hyd, hwd, hpc, htc, hbl, hp, hM⟩ := hL
  obtain ⟨hk, hf, hh⟩ := h.at ht
  have kt := clampT ht.1
  have hb := hM.1 (Int32.toNatClampNeg t) (by omega)
  have ho := hp _ (vp_lt h2)
  have hA := airB (ki := ki) hb.2.2
  have hE := errB (t := t) (o := one) (p := o) hM (vp_of (by omega)) h1
  have hd := driftB (ki := ki) (fi := fi) (w := wd) hb.2.2 hwd
  have e1 : (pa (Int32.toNatClampNeg o)).toInt * (f_X5_airOf ki he t).toInt ≤ 3 * (f_X5_airOf ki he t).toInt := Int.mul_le_mul_of_nonneg_right ho.2.2 hA.1
  have e2 : 0 ≤ (pa (Int32.toNatClampNeg o)).toInt * (f_X5_airOf ki he t).toInt := Int.mul_nonneg ho.2.1 hA.1
  have hR0 := tm32 (x := pa (Int32.toNatClampNeg o)) (y := f_X5_airOf ki he t) (by omega) (by omega)
  have hR : 0 ≤ (pa (Int32.toNatClampNeg o) * f_X5_airOf ki he t).toInt ∧ (pa (Int32.toNatClampNeg o) * f_X5_airOf ki he t).toInt ≤ 1000 := by omega
  apply Int32.toInt_inj.mp
  rw [had_cnt hE hd (by omega) hR]
  unfold f_X0_waysHad
  rw [eq_err h ht, eq_drift hk hf hh hb.2.2, eq_air hk hh hb.2.2]
  simp only [lt1]
  exact ways_core hE hd hR (by omega) (by omega)

