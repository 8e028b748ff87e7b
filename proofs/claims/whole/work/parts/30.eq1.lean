section EQ1
variable {tk tf th ki fi he : Nat → Int32} {a : Nat} {t : Int32}
theorem eq_air (hk : tk a = ki (Int32.toNatClampNeg t)) (hh : th a = he (Int32.toNatClampNeg t)) (hb : 0 ≤ (he (Int32.toNatClampNeg t)).toInt ∧ (he (Int32.toNatClampNeg t)).toInt ≤ 9) : f_X3_air tk th a = f_X5_airOf ki he t := by
  unfold f_X3_air f_X5_airOf
  have z1 : (1 : Int32).toInt = 1 := rfl
  have z2 : (2 : Int32).toInt = 2 := rfl
  rw [hk, hh]
  by_cases hc : he (Int32.toNatClampNeg t) ≤ (1 : Int32)
  · have q := Int32.le_iff_toInt_le.mp hc
    rw [if_pos hc, if_neg (fun g => by have q2 := Int32.le_iff_toInt_le.mp g; omega)]
  · have q := mt Int32.le_iff_toInt_le.mpr hc
    rw [if_neg hc, if_pos (Int32.le_iff_toInt_le.mpr (by omega))]
theorem eq_drift {w : Int32} (hk : tk a = ki (Int32.toNatClampNeg t)) (hf : tf a = fi (Int32.toNatClampNeg t)) (hh : th a = he (Int32.toNatClampNeg t)) (hb : 0 ≤ (he (Int32.toNatClampNeg t)).toInt ∧ (he (Int32.toNatClampNeg t)).toInt ≤ 9) : f_X3_drift tk tf th a w = f_X5_driftOf w ki fi he t := by
  unfold f_X3_drift f_X5_driftOf
  rw [eq_air hk hh hb, hk, hf]
theorem eq_tires (hk : tk a = ki (Int32.toNatClampNeg t)) (hf : tf a = fi (Int32.toNatClampNeg t)) : f_X3_tires tk tf a = f_X5_tiresOf ki fi t := by
  unfold f_X3_tires f_X5_tiresOf
  rw [hk, hf]
theorem tiresB (hb : 0 ≤ (fi (Int32.toNatClampNeg t)).toInt ∧ (fi (Int32.toNatClampNeg t)).toInt ≤ 9) : 0 ≤ (f_X5_tiresOf ki fi t).toInt ∧ (f_X5_tiresOf ki fi t).toInt ≤ 11 := by
  unfold f_X5_tiresOf
  have z2 : (2 : Int32).toInt = 2 := rfl
  have a2 := ta32 (x := 2) (y := fi (Int32.toNatClampNeg t)) (by omega) (by omega)
  split
  · decide
  · split
    · decide
    · split
      · omega
      · decide
end EQ1
/-- the touches that there are, by their numbers: those of the class and those of the reference -/
def TRel (tr : Nat → Option Nat) (tk tf th ki fi he : Nat → Int32) (tc : Int32) : Prop := ∀ i : Nat, (i : Int) < tc.toInt → tk (tA tr i) = ki i ∧ tf (tA tr i) = fi i ∧ th (tA tr i) = he i
theorem TRel.at {tr : Nat → Option Nat} {tk tf th ki fi he : Nat → Int32} {tc t : Int32} (h : TRel tr tk tf th ki fi he tc) (ht : 0 ≤ t.toInt ∧ t.toInt < tc.toInt) : tk (tA tr (Int32.toNatClampNeg t)) = ki (Int32.toNatClampNeg t) ∧ tf (tA tr (Int32.toNatClampNeg t)) = fi (Int32.toNatClampNeg t) ∧ th (tA tr (Int32.toNatClampNeg t)) = he (Int32.toNatClampNeg t) := h _ (by rw [clampT ht.1]; exact ht.2)
section EQ2
variable {tr : Nat → Option Nat} {tk tf th ki fi he : Nat → Int32} {tc t o p : Int32}
theorem eq_err {sa ta : Nat → Int32} (h : TRel tr tk tf th ki fi he tc) (ht : 0 ≤ t.toInt ∧ t.toInt < tc.toInt) : f_X0_errorOf sa ta tr tk tf th t o p = f_X5_errorOf sa ta ki fi he t o p := by
  obtain ⟨hk, hf, hh⟩ := h.at ht
  unfold f_X0_errorOf f_X5_errorOf
  simp only [lt1]
  unfold f_X3_errorBy
  rw [hk, hf, hh]
  by_cases e : o = p
  · simp only [if_pos e, if_neg (show ¬ (1 : Int32) = 0 by decide)]
  · simp only [if_neg e, eq_self, if_true, ite_self]
theorem eq_ways {sa ta : Nat → Int32} (h : TRel tr tk tf th ki fi he tc) (ht : 0 ≤ t.toInt ∧ t.toInt < tc.toInt) : f_X0_ways sa ta tr tk tf th t o p = f_X5_eachOf sa ta ki fi he t o p := by
  unfold f_X0_ways f_X5_eachOf
  rw [eq_err h ht]
theorem eq_yard (y x : Int32) : f_X0_hasYard y x = f_X5_isYard y x := rfl
theorem zsub (x : Int32) : (0 : Int32) - x = -x := by
  apply Int32.toInt_inj.mp
  rw [Int32.toInt_sub, Int32.toInt_neg]
  have z : (0 : Int32).toInt = 0 := rfl
  rw [z, Int.zero_sub]
theorem eq_had {yd wd x : Int32} {ya pa : Nat → Int32} (h : TRel tr tk tf th ki fi he tc) (ht : 0 ≤ t.toInt ∧ t.toInt < tc.toInt) (hb : 0 ≤ (he (Int32.toNatClampNeg t)).toInt ∧ (he (Int32.toNatClampNeg t)).toInt ≤ 9) : f_X0_isHad yd wd ya pa tr tk tf th t o x = f_X5_isHad yd wd ya pa ki fi he t o x := by
  obtain ⟨hk, hf, hh⟩ := h.at ht
  unfold f_X0_isHad f_X5_isHad
  rw [eq_drift hk hf hh hb, eq_air hk hh hb]
  simp only [lt1, eq_yard, zsub]
  by_cases c : (0 : Int32) ≤ f_X5_driftOf wd ki fi he t + x
  · simp only [if_pos c]
  · simp only [if_neg c]
end EQ2
theorem clampUp {x : Int32} (h : 0 ≤ x.toInt) : (if x < (99 : Int32) then x else (99 : Int32)) = (if (0 : Int32) ≤ x then (if x ≤ (99 : Int32) then x else (99 : Int32)) else (0 : Int32)) := by
  have z99 : (99 : Int32).toInt = 99 := rfl
  have z0 : (0 : Int32).toInt = 0 := rfl
  rw [if_pos (Int32.le_iff_toInt_le.mpr (by omega) : (0 : Int32) ≤ x)]
  by_cases c : x < (99 : Int32)
  · have q := Int32.lt_iff_toInt_lt.mp c
    rw [if_pos c, if_pos (Int32.le_iff_toInt_le.mpr (by omega))]
  · have q := mt Int32.lt_iff_toInt_lt.mpr c
    rw [if_neg c]
    by_cases d : x ≤ (99 : Int32)
    · have q2 := Int32.le_iff_toInt_le.mp d
      rw [if_pos d]
      exact Int32.toInt_inj.mp (by omega)
    · rw [if_neg d]
theorem clampDown {x : Int32} (h : x.toInt ≤ 99) : (if (0 : Int32) < x then x else (0 : Int32)) = (if (0 : Int32) ≤ x then (if x ≤ (99 : Int32) then x else (99 : Int32)) else (0 : Int32)) := by
  have z99 : (99 : Int32).toInt = 99 := rfl
  have z0 : (0 : Int32).toInt = 0 := rfl
  rw [if_pos (Int32.le_iff_toInt_le.mpr (by omega) : x ≤ (99 : Int32))]
  by_cases c : (0 : Int32) < x
  · have q := Int32.lt_iff_toInt_lt.mp c
    rw [if_pos c, if_pos (Int32.le_iff_toInt_le.mpr (by omega))]
  · have q := mt Int32.lt_iff_toInt_lt.mpr c
    rw [if_neg c]
    by_cases d : (0 : Int32) ≤ x
    · have q2 := Int32.le_iff_toInt_le.mp d
      rw [if_pos d]
      exact Int32.toInt_inj.mp (by omega)
    · rw [if_neg d]
theorem eq_tire {pc one t : Int32} {ki fi : Nat → Int32} (hp : pc.toInt ≤ 5) (hT : 0 ≤ (f_X5_tiresOf ki fi t).toInt ∧ (f_X5_tiresOf ki fi t).toInt ≤ 11) : ∀ (n : Nat) (v5 v6 h k : Int32) (pl ta : Nat → Int32), (pc.toInt - v6.toInt).toNat < n → 0 ≤ v6.toInt → (∀ j, j < 5 → 0 ≤ (ta j).toInt ∧ (ta j).toInt ≤ 99) → f_X5_keeps_L73 pc ki fi t n one v5 v6 h k pl ta = (v5, h, k, pl, f_X0_tire_L2 pc one (f_X5_tiresOf ki fi t) n v6 ta) := by
  intro n
  have z99 : (99 : Int32).toInt = 99 := rfl
  have z0 : (0 : Int32).toInt = 0 := rfl
  have z1 : (1 : Int32).toInt = 1 := rfl
  induction n with
  | zero => intro v5 v6 h k pl ta hm; omega
  | succ n ih =>
    intro v5 v6 h k pl ta hm h6 hr
    rw [f_X5_keeps_L73, f_X0_tire_L2]
    by_cases hc : pc ≤ v6
    · rw [if_pos hc, if_pos hc]
    · have q := mt Int32.le_iff_toInt_le.mpr hc
      have hi := inc_nle hc
      have kv := clampT h6
      have hj := hr v6.toNatClampNeg (by omega)
      rw [if_neg hc, if_neg hc]
      simp only [lt1]
      by_cases e : v6 = one
      · have ax := ta32 (x := ta v6.toNatClampNeg) (y := f_X5_tiresOf ki fi t) (by omega) (by omega)
        have g0 : (0 : Int32) ≤ ta v6.toNatClampNeg + f_X5_tiresOf ki fi t := Int32.le_iff_toInt_le.mpr (by omega)
        rw [if_pos e, if_pos e, clampUp (by omega), if_pos g0, if_pos g0]
        by_cases g : ta v6.toNatClampNeg + f_X5_tiresOf ki fi t ≤ (99 : Int32)
        · have qg := Int32.le_iff_toInt_le.mp g
          rw [if_pos g, if_pos g]
          exact ih _ _ _ _ _ _ (by omega) (by omega) (upd99 hr (by omega))
        · rw [if_neg g, if_neg g]
          exact ih _ _ _ _ _ _ (by omega) (by omega) (upd99 hr (by omega))
      · have ax := ts32 (x := ta v6.toNatClampNeg) (y := 1) (by omega) (by omega)
        rw [if_neg e, if_neg e, clampDown (by omega)]
        by_cases g0 : (0 : Int32) ≤ ta v6.toNatClampNeg - (1 : Int32)
        · have q0 := Int32.le_iff_toInt_le.mp g0
          have g : ta v6.toNatClampNeg - (1 : Int32) ≤ (99 : Int32) := Int32.le_iff_toInt_le.mpr (by omega)
          rw [if_pos g0, if_pos g0, if_pos g, if_pos g]
          exact ih _ _ _ _ _ _ (by omega) (by omega) (upd99 hr (by omega))
        · rw [if_neg g0, if_neg g0]
          exact ih _ _ _ _ _ _ (by omega) (by omega) (upd99 hr (by omega))
theorem eq_play {tr : Nat → Option Nat} {tk tf th ki fi he sk : Nat → Int32} {tc t to e yd wd pc bl tm : Int32} {ya pa ta : Nat → Int32} (h : TRel tr tk tf th ki fi he tc) (ht : 0 ≤ t.toInt ∧ t.toInt < tc.toInt) (h6 : tc.toInt ≤ 6) (hp : 0 ≤ pc.toInt ∧ pc.toInt ≤ 5) (hM : MV ki fi he sk ta) : f_X0_play yd wd pc bl tm ya pa ta tr tk tf th t to e = f_X5_keeps yd wd pc bl tm ya pa ta ki fi he t to e := by
  obtain ⟨hk, hf, hh⟩ := h.at ht
  have kv := clampT ht.1
  have hb := hM.1 (Int32.toNatClampNeg t) (by omega)
  have hT := tiresB (ki := ki) hb.2.1
  have hr : ∀ j, j < 5 → 0 ≤ (ta j).toInt ∧ (ta j).toInt ≤ 99 := fun j hj => (hM.2 j hj).2
  have z0 : (0 : Int32).toInt = 0 := rfl
  unfold f_X0_play f_X5_keeps
  rw [eq_had h ht hb.2.2, eq_drift hk hf hh hb.2.2, eq_tires hk hf]
  simp only [lt1]
  unfold f_X0_tire
  rw [eq_tire hp.2 hT 6 _ 0 _ _ _ ta (by omega) (by omega) hr]
  split
  · rfl
  · rw [eq_tire hp.2 hT 6 _ 0 _ _ _ ta (by omega) (by omega) hr]

