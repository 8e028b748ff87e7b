theorem minR {x : Int32} (h : 0 ≤ x.toInt) : 0 ≤ (if x < (99 : Int32) then x else (99 : Int32)).toInt ∧ (if x < (99 : Int32) then x else (99 : Int32)).toInt ≤ 99 := by
  have z : (99 : Int32).toInt = 99 := rfl
  split
  · next c => have := ltT c; omega
  · omega
theorem maxR {x : Int32} (h : x.toInt ≤ 99) : 0 ≤ (if (0 : Int32) < x then x else (0 : Int32)).toInt ∧ (if (0 : Int32) < x then x else (0 : Int32)).toInt ≤ 99 := by
  have z : (0 : Int32).toInt = 0 := rfl
  split
  · next c => have := ltT c; omega
  · omega
theorem tire_rng {pc one m : Int32} (hp : pc.toInt ≤ 5) (hm : 0 ≤ m.toInt ∧ m.toInt ≤ 11) : ∀ (n : Nat) (v : Int32) (ta : Nat → Int32), 0 ≤ v.toInt → (∀ j, j < 5 → 0 ≤ (ta j).toInt ∧ (ta j).toInt ≤ 99) → ∀ j, j < 5 → 0 ≤ (f_X0_tire_L2 pc one m n v ta j).toInt ∧ (f_X0_tire_L2 pc one m n v ta j).toInt ≤ 99 := by
  intro n
  induction n with
  | zero => intro v ta _ h; exact h
  | succ n ih =>
    intro v ta hv h
    rw [f_X0_tire_L2]
    by_cases c : pc ≤ v
    · rw [if_pos c]; exact h
    · rw [if_neg c]
      have q := nleT c
      have hi := inc_nle c
      have hx := h v.toNatClampNeg (by have := clampT hv; omega)
      have z1 : (1 : Int32).toInt = 1 := rfl
      by_cases e : v = one
      · rw [if_pos e]
        have ha := ta32 (x := ta v.toNatClampNeg) (y := m) (by omega) (by omega)
        exact ih (v + 1) _ (by omega) (upd_rng h (minR (by omega)))
      · rw [if_neg e]
        have ha := ts32 (x := ta v.toNatClampNeg) (y := (1 : Int32)) (by omega) (by omega)
        exact ih (v + 1) _ (by omega) (upd_rng h (maxR (by omega)))
theorem keeps_eq {sk ki fi he pl pa ti : Nat → Int32} {t to e yd wd pc bl tm : Int32} (ht : vp_in t 6) (hp : 0 ≤ pc.toInt ∧ pc.toInt ≤ 5) (hM : MV ki fi he sk ti) : f_X5_keeps yd wd pc bl tm pl pa ti ki fi he t to e = (f_X5_isHad yd wd pl pa ki fi he t to e, (if f_X5_isHad yd wd pl pa ki fi he t to e = 0 then (-9 : Int32) else to), (if f_X5_isHad yd wd pl pa ki fi he t to e = 0 then (0 : Int32) else tm + 1), (if f_X5_isHad yd wd pl pa ki fi he t to e = 0 then pl else upd pl to.toNatClampNeg (pl to.toNatClampNeg + (f_X5_driftOf wd ki fi he t + e))), f_X0_tire_L2 pc bl (f_X5_tiresOf ki fi t) 6 0 ti) := by
  have hT := tiresB (ki := ki) (t := t) (hM.1 _ (vp_lt ht)).2.1
  have z0 : (0 : Int32).toInt = 0 := rfl
  unfold f_X5_keeps
  simp only [lt1]
  by_cases c : f_X5_isHad yd wd pl pa ki fi he t to e = 0
  · rw [if_pos c, if_pos c, if_pos c, if_pos c, eq_tire hp.2 hT 6 _ 0 _ _ _ _ (by omega) (by omega) (fun j hj => (hM.2 j hj).2)]
  · rw [if_neg c, if_neg c, if_neg c, if_neg c, eq_tire hp.2 hT 6 _ 0 _ _ _ _ (by omega) (by omega) (fun j hj => (hM.2 j hj).2)]
theorem had_yard {ki fi he pl pa : Nat → Int32} {t to e yd wd : Int32} (h : ¬ f_X5_isHad yd wd pl pa ki fi he t to e = 0) : 0 ≤ (pl to.toNatClampNeg + (f_X5_driftOf wd ki fi he t + e)).toInt ∧ (pl to.toNatClampNeg + (f_X5_driftOf wd ki fi he t + e)).toInt < yd.toInt := by
  unfold f_X5_isHad at h
  simp only [lt1] at h
  rw [yard_iff] at h
  by_cases c : 0 ≤ (pl to.toNatClampNeg + (f_X5_driftOf wd ki fi he t + e)).toInt ∧ (pl to.toNatClampNeg + (f_X5_driftOf wd ki fi he t + e)).toInt < yd.toInt
  · exact c
  · rw [if_neg c, if_pos rfl] at h
    exact absurd rfl h
/-- a lane is in its ranges behind a touch -/
theorem LV_keeps {sk ki fi he pl pa ti : Nat → Int32} {t to e yd wd pc tc bl tm : Int32} (hL : LV yd wd pc tc bl pl pa sk ti ki fi he) (ht : 0 ≤ t.toInt ∧ t.toInt < tc.toInt) (hto : 0 ≤ to.toInt ∧ to.toInt < pc.toInt) : LV yd wd pc tc (f_X5_keeps yd wd pc bl tm pl pa ti ki fi he t to e).2.1 (f_X5_keeps yd wd pc bl tm pl pa ti ki fi he t to e).2.2.2.1 pa sk (f_X5_keeps yd wd pc bl tm pl pa ti ki fi he t to e).2.2.2.2 ki fi he := by
  obtain ⟨hy, hw, hp, htc, hb, hq, hM⟩ := hL
  have hv : vp_in t 6 := vp_of (by omega)
  have hT := tiresB (ki := ki) (t := t) (hM.1 _ (vp_lt hv)).2.1
  rw [keeps_eq hv hp hM]
  have hti := tire_rng (one := bl) hp.2 hT 6 0 ti (by decide) (fun j hj => (hM.2 j hj).2)
  have hM2 : MV ki fi he sk (f_X0_tire_L2 pc bl (f_X5_tiresOf ki fi t) 6 0 ti) := ⟨hM.1, fun j hj => ⟨(hM.2 j hj).1, hti j hj⟩⟩
  by_cases c : f_X5_isHad yd wd pl pa ki fi he t to e = 0
  · dsimp only
    rw [if_pos c, if_pos c]
    exact ⟨hy, hw, hp, htc, Or.inl rfl, hq, hM2⟩
  · dsimp only
    rw [if_neg c, if_neg c]
    have h1 := had_yard c
    exact ⟨hy, hw, hp, htc, Or.inr hto, fun j hj => ⟨upd_rng (fun j hj => (hq j hj).1) (by omega) j hj, (hq j hj).2⟩, hM2⟩
theorem up_iff {pc bl : Int32} (hb : bl.toInt = -9 ∨ (0 ≤ bl.toInt ∧ bl.toInt < pc.toInt)) : f_X0_isUp pc bl = (if (0 : Int32) ≤ bl then 1 else 0) := by
  have z0 : (0 : Int32).toInt = 0 := rfl
  unfold f_X0_isUp f_X0_hasPlayer
  simp only [lt1]
  by_cases c : (0 : Int32) ≤ bl
  · have q := leT c
    rw [if_pos c, if_neg (Int32.not_lt.mpr c), if_neg (fun c2 => by have := leT c2; omega)]
  · rw [if_neg c, if_pos (Int32.not_le.mp c)]
theorem up_no {pc bl : Int32} (hb : bl.toInt = -9 ∨ (0 ≤ bl.toInt ∧ bl.toInt < pc.toInt)) (c : ¬ (0 : Int32) ≤ bl) : f_X0_isUp pc bl = 0 := by rw [up_iff hb, if_neg c]
theorem up_yes {pc bl : Int32} (hb : bl.toInt = -9 ∨ (0 ≤ bl.toInt ∧ bl.toInt < pc.toInt)) (c : (0 : Int32) ≤ bl) : f_X0_isUp pc bl = 1 := by rw [up_iff hb, if_pos c]
theorem ne10 : ¬ (1 : Int32) = 0 := by decide
theorem CV_keeps {tk tf th sk ki fi he pl pa ti : Nat → Int32} {tr : Nat → Option Nat} {t to e yd wd pc tc bl tm : Int32} (hC : CV tk tf th tr sk ti) (hL : LV yd wd pc tc bl pl pa sk (f_X5_keeps yd wd pc bl tm pl pa ti ki fi he t to e).2.2.2.2 ki fi he) : CV tk tf th tr sk (f_X5_keeps yd wd pc bl tm pl pa ti ki fi he t to e).2.2.2.2 := ⟨hC.1, fun j hj => ⟨(hC.2 j hj).1, (hL.2.2.2.2.2.2.2 j hj).2⟩⟩
theorem eq_keep {rf ya pa sa ta ki fi he tk tf th rf' ya' ta' : Nat → Int32} {tr : Nat → Option Nat} {yd wd pc tc bl tm v1 v2 v3 r bl' tm' : Int32} {LP : List Nat} (hI : LI yd wd pc tc bl ya pa sa ta tr ki fi he LP tk tf th) (e4 : f_X4_keep rf yd wd pc tc bl tm ya pa sa ta tr tk tf th v1 v2 v3 = (r, rf', bl', tm', ya', ta')) : f_X5_keep yd wd pc tc bl tm rf ya pa sa ta ki fi he v1 v2 v3 = (r, bl', tm', rf', ya', ta') ∧ LI yd wd pc tc bl' ya' pa sa ta' tr ki fi he LP tk tf th := by
  obtain ⟨hL, hR, hC, hT⟩ := hI
  have hL0 := hL
  obtain ⟨hy, hw, hp, htc, hb, hq, hM⟩ := hL0
  unfold f_X4_keep at e4
  unfold f_X5_keep
  simp only [lt1, lt2, lt5] at e4 ⊢
  by_cases hz : f_X0_hasTouch tc v1 = 0
  · rw [if_pos hz, no1] at e4
    rw [if_pos (show f_X5_isTouch tc v1 = 0 from hz)]
    cases e4
    exact ⟨rfl, hL, hR, hC, hT⟩
  rw [if_neg hz] at e4
  rw [if_neg (show ¬ f_X5_isTouch tc v1 = 0 from hz)]
  have ht := hasTouch_t rfl hz
  by_cases hz2 : f_X0_hasPlayer pc v2 = 0
  · rw [if_pos hz2, no1] at e4
    rw [if_pos (show f_X5_isPlayer pc v2 = 0 from hz2)]
    cases e4
    exact ⟨rfl, hL, hR, hC, hT⟩
  rw [if_neg hz2] at e4
  rw [if_neg (show ¬ f_X5_isPlayer pc v2 = 0 from hz2)]
  have ht2 := hasPlayer_t rfl hz2
  by_cases c : (0 : Int32) ≤ bl
  · rw [up_yes hb c, if_neg ne10, eq_err hR ht] at e4
    rw [if_pos c]
    by_cases c1 : -(f_X5_errorOf sa ta ki fi he v1 bl v2) ≤ v3
    · rw [if_pos c1] at e4
      by_cases c2 : v3 ≤ f_X5_errorOf sa ta ki fi he v1 bl v2
      · rw [if_pos c2, eq_play hR ht htc.2 hp hM] at e4
        rw [bnd_ok c1 c2, if_pos rfl]
        have hL2 := LV_keeps (tm := tm) (e := v3) hL ht ht2
        have hti := hL2.2.2.2.2.2.2
        cases e4
        exact ⟨rfl, hL2, hR, ⟨hC.1, fun j hj => ⟨(hC.2 j hj).1, (hti.2 j hj).2⟩⟩, hT⟩
      · rw [if_neg c2, no6] at e4
        rw [bnd_hi c1 c2, if_neg ne6]
        cases e4
        exact ⟨rfl, hL, hR, hC, hT⟩
    · rw [if_neg c1, no4] at e4
      rw [bnd_lo c1, if_neg ne4]
      cases e4
      exact ⟨rfl, hL, hR, hC, hT⟩
  · rw [up_no hb c, if_pos rfl, no3] at e4
    rw [if_neg c]
    cases e4
    exact ⟨rfl, hL, hR, hC, hT⟩
theorem upd_back (f : Nat → Int32) (k : Nat) (x : Int32) : upd (upd f k x) k (f k) = f := by
  funext j
  by_cases e : j = k
  · subst e; rw [upd_self]
  · rw [upd_ne _ _ e, upd_ne _ _ e]
theorem err_by {sa ta ki fi he tk tf th : Nat → Int32} {a : Nat} {t o x : Int32} (h1 : tk a = ki t.toNatClampNeg) (h2 : tf a = fi t.toNatClampNeg) (h3 : th a = he t.toNatClampNeg) : f_X5_errorOf sa (upd ta o.toNatClampNeg x) ki fi he t o o = f_X3_errorBy tk tf th a (sa o.toNatClampNeg) x 1 := by
  unfold f_X5_errorOf f_X3_errorBy
  rw [upd_self, h1, h2, h3, if_neg ne10]
  simp
theorem eq_grows {rf sa ta ki fi he tk tf th rf' : Nat → Int32} {tr : Nat → Option Nat} {pc tc v1 v2 v3 r : Int32} (hR : TRel tr tk tf th ki fi he tc) (e4 : f_X4_grows rf pc tc sa ta tr tk tf th v1 v2 v3 = (r, rf')) : f_X5_grows pc tc rf sa ta ki fi he v1 v2 v3 = (r, rf', ta) := by
  unfold f_X4_grows at e4
  unfold f_X5_grows
  simp only [lt1, lt2] at e4 ⊢
  by_cases hz : f_X0_hasTouch tc v1 = 0
  · rw [if_pos hz, no1] at e4
    rw [if_pos (show f_X5_isTouch tc v1 = 0 from hz)]
    cases e4; rfl
  rw [if_neg hz] at e4
  rw [if_neg (show ¬ f_X5_isTouch tc v1 = 0 from hz)]
  obtain ⟨a1, a2, a3⟩ := hR.at (hasTouch_t rfl hz)
  by_cases hz2 : f_X0_hasPlayer pc v2 = 0
  · rw [if_pos hz2, no1] at e4
    rw [if_pos (show f_X5_isPlayer pc v2 = 0 from hz2)]
    cases e4; rfl
  rw [if_neg hz2] at e4
  rw [if_neg (show ¬ f_X5_isPlayer pc v2 = 0 from hz2)]
  by_cases c1 : (1 : Int32) ≤ v3
  · rw [if_pos c1] at e4
    by_cases c2 : v3 ≤ (20 : Int32)
    · rw [if_pos c2, eq_tires a1 a2] at e4
      rw [bnd_ok c1 c2, if_pos rfl, upd_back, upd_back, err_by a1 a2 a3, err_by a1 a2 a3]
      generalize (ta v2.toNatClampNeg + (v3 - 1) * f_X5_tiresOf ki fi v1) = x at e4 ⊢
      have z99 : (99 : Int32).toInt = 99 := rfl
      by_cases c3 : x ≤ (99 : Int32)
      · rw [if_pos c3]
        by_cases c4 : x < (99 : Int32)
        · rw [if_pos c4] at e4; cases e4; rfl
        · rw [if_neg c4] at e4
          have e9 : x = 99 := ofEq (by have := leT c3; have := nltT c4; omega)
          rw [e9]; cases e4; rfl
      · rw [if_neg c3]
        rw [if_neg (fun c4 => by have := ltT c4; have := nleT c3; omega)] at e4
        cases e4; rfl
    · rw [if_neg c2, no6] at e4
      rw [bnd_hi c1 c2, if_neg ne6]
      cases e4; rfl
  · rw [if_neg c1, no4] at e4
    rw [bnd_lo c1, if_neg ne4]
    cases e4; rfl
theorem or0 (x : Int32) : x ||| 0 = x := by
  apply Int32.toBitVec_inj.mp
  simp
theorem abs_lt {E x : Int32} : (E < (if 0 ≤ x then x else 0 - x)) ↔ (if 0 ≤ x then E < x else E < -x) := by
  rw [zsub]
  split <;> exact Iff.rfl
theorem winds_L {rf ya sa ta ki fi he tk tf th : Nat → Int32} {tr : Nat → Option Nat} {w0 v1 v2 v3 v4 : Int32} (a1 : tk (tA tr v1.toNatClampNeg) = ki v1.toNatClampNeg) (a2 : tf (tA tr v1.toNatClampNeg) = fi v1.toNatClampNeg) (a3 : th (tA tr v1.toNatClampNeg) = he v1.toNatClampNeg) (hb : 0 ≤ (he v1.toNatClampNeg).toInt ∧ (he v1.toNatClampNeg).toInt ≤ 9) : ∀ (n : Nat) (v7 v8 w : Int32), (4 - v8.toInt).toNat < n → -3 ≤ v8.toInt → f_X5_winds_L53 rf ya sa ta ki fi he v1 v2 v3 v4 n w0 v7 v8 w = ((f_X4_winds_L80 rf tr tk tf th v1 n (f_X5_errorOf sa ta ki fi he v1 v2 v3) (v4 - ya v3.toNatClampNeg) v7 v8).1, w0, rf) ∧ (f_X4_winds_L80 rf tr tk tf th v1 n (f_X5_errorOf sa ta ki fi he v1 v2 v3) (v4 - ya v3.toNatClampNeg) v7 v8).2 = rf := by
  have z4 : (4 : Int32).toInt = 4 := rfl
  have z3 : (3 : Int32).toInt = 3 := rfl
  intro n
  induction n with
  | zero => intro v7 v8 w h; omega
  | succ n ih =>
    intro v7 v8 w hm hv
    rw [f_X5_winds_L53, f_X4_winds_L80]
    by_cases c : (4 : Int32) ≤ v8
    · have q := leT c
      rw [if_pos c, if_pos (ofLt (by omega))]
      exact ⟨rfl, rfl⟩
    · have q := nleT c
      have hi := inc_nle c
      rw [if_neg c, if_neg (fun c2 => by have := ltT c2; omega)]
      simp only [lt1]
      rw [eq_drift a1 a2 a3 hb]
      generalize v4 - ya v3.toNatClampNeg - f_X5_driftOf v8 ki fi he v1 = x
      by_cases c3 : f_X5_errorOf sa ta ki fi he v1 v2 v3 < (if 0 ≤ x then x else 0 - x)
      · rw [if_pos c3]
        have c4 := abs_lt.mp c3
        by_cases c5 : (0 : Int32) ≤ x
        · rw [if_pos c5] at c4 ⊢
          rw [if_pos c4, or0]
          exact ih _ _ _ (by omega) (by omega)
        · rw [if_neg c5] at c4 ⊢
          rw [if_pos c4, or0]
          exact ih _ _ _ (by omega) (by omega)
      · rw [if_neg c3]
        have c4 := mt abs_lt.mpr c3
        by_cases c5 : (0 : Int32) ≤ x
        · rw [if_pos c5] at c4 ⊢
          rw [if_neg c4]
          exact ih _ _ _ (by omega) (by omega)
        · rw [if_neg c5] at c4 ⊢
          rw [if_neg c4]
          exact ih _ _ _ (by omega) (by omega)
theorem m3 : (-3 : Int32).toInt = -3 := by decide
theorem winds_8 {rf ya sa ta ki fi he tk tf th : Nat → Int32} {tr : Nat → Option Nat} {w0 v1 v2 v3 v4 : Int32} {Q : Int32 × (Nat → Int32)} (a1 : tk (tA tr v1.toNatClampNeg) = ki v1.toNatClampNeg) (a2 : tf (tA tr v1.toNatClampNeg) = fi v1.toNatClampNeg) (a3 : th (tA tr v1.toNatClampNeg) = he v1.toNatClampNeg) (hb : 0 ≤ (he v1.toNatClampNeg).toInt ∧ (he v1.toNatClampNeg).toInt ≤ 9) (e : f_X4_winds_L80 rf tr tk tf th v1 8 (f_X5_errorOf sa ta ki fi he v1 v2 v3) (v4 - ya v3.toNatClampNeg) 0 (-3) = Q) : f_X5_winds_L53 rf ya sa ta ki fi he v1 v2 v3 v4 8 w0 0 (-3) w0 = (Q.1, w0, Q.2) := by
  obtain ⟨w1, w2⟩ := winds_L (rf := rf) (ya := ya) (sa := sa) (ta := ta) (w0 := w0) (v2 := v2) (v3 := v3) (v4 := v4) a1 a2 a3 hb 8 0 (-3) w0 (by rw [m3]; decide) (by rw [m3]; decide)
  rw [e] at w1 w2
  rw [w1, w2]

theorem eq_winds {rf ya sa ta ki fi he tk tf th rf' : Nat → Int32} {tr : Nat → Option Nat} {yd wd pc tc v1 v2 v3 v4 r : Int32} (hy : 3 ≤ yd.toInt ∧ yd.toInt ≤ 12) (hR : TRel tr tk tf th ki fi he tc) (hb : ∀ j, j < 6 → 0 ≤ (he j).toInt ∧ (he j).toInt ≤ 9) (h6 : tc.toInt ≤ 6) (e4 : f_X4_winds rf yd pc tc ya sa ta tr tk tf th v1 v2 v3 v4 = (r, rf')) : f_X5_winds yd wd pc tc rf ya sa ta ki fi he v1 v2 v3 v4 = (r, wd, rf') := by
  have z1 : (1 : Int32).toInt = 1 := rfl
  have hs := ts32 (x := yd) (y := (1 : Int32)) (by omega) (by omega)
  unfold f_X4_winds at e4
  unfold f_X5_winds
  rw [lt1_def] at e4 ⊢
  rw [eq_there]
  by_cases hz : f_X4_areThere pc tc v1 v2 v3 = 0
  · rw [if_pos hz, no1] at e4
    rw [if_pos hz]
    simp only [lt2] at e4 ⊢
    cases e4; rfl
  rw [if_neg hz] at e4
  rw [if_neg hz, lt1_def]
  have ht := (areThere_t rfl hz).1
  obtain ⟨a1, a2, a3⟩ := hR.at ht
  by_cases c1 : (0 : Int32) ≤ v4
  · rw [if_pos c1] at e4
    by_cases c2 : v4 < yd
    · have q2 := ltT c2
      rw [if_pos c2, lt1_def, eq_err hR ht] at e4
      rw [bnd_ok c1 (ofLe (by omega)), if_pos rfl]
      have hbb := hb v1.toNatClampNeg (by have := clampT ht.1; omega)
      exact winds_8 (w0 := wd) a1 a2 a3 hbb e4
    · have q2 := nltT c2
      rw [if_neg c2, no6] at e4
      rw [bnd_hi c1 (fun c => by have := leT c; omega), if_neg ne6]
      simp only [lt2] at e4 ⊢
      cases e4; rfl
  · rw [if_neg c1, no4] at e4
    rw [bnd_lo c1, if_neg ne4]
    simp only [lt2] at e4 ⊢
    cases e4; rfl
theorem eq_again {rf ya pa sa ta ki fi he tk tf th rf' : Nat → Int32} {tr : Nat → Option Nat} {yd wd pc tc bl v1 v2 v3 v4 : Int32} {oa ob r oa' ob' : Int64} (hL : LV yd wd pc tc bl ya pa sa ta ki fi he) (hR : TRel tr tk tf th ki fi he tc) (e4 : f_X4_again rf yd wd pc tc ya pa sa ta tr oa ob tk tf th v1 v2 v3 v4 = (r, rf', oa', ob')) : f_X5_again yd wd pc tc rf ya pa sa ta ki fi he v1 v2 v3 v4 = (r, rf') := by
  unfold f_X4_again at e4
  unfold f_X5_again f_X5_isIn
  simp only [lt1, lt2] at e4 ⊢
  rw [eq_there]
  by_cases hz : f_X4_areThere pc tc v1 v2 v3 = 0
  · rw [if_pos hz, lo1] at e4
    rw [if_pos hz]
    cases e4; rfl
  rw [if_neg hz] at e4
  rw [if_neg hz]
  have hA := areThere_t rfl hz
  by_cases c1 : v4 < (0 : Int32)
  · rw [if_pos c1, lo2] at e4
    rw [if_pos c1, if_pos rfl]
    cases e4; rfl
  rw [if_neg c1] at e4
  rw [if_neg c1]
  by_cases c2 : v4 ≤ (1 : Int32)
  · have hv1 : vp_in v1 6 := vp_of (by have := hL.2.2.2.1.2; omega)
    have hv2 : vp_in v2 5 := vp_of (by have := hL.2.2.1.2; omega)
    have hv3 : vp_in v3 5 := vp_of (by have := hL.2.2.1.2; omega)
    have hM := hL.2.2.2.2.2.2
    rw [if_pos c2, eq_waysHad hR hL hA.1 hv2 hv3, eq_ways hR hA.1, eq_become (hadP rfl) (eachP hM hv1 hv2 rfl)] at e4
    dsimp only at e4
    rw [eq_frac] at e4
    rw [if_neg (Int32.not_lt.mpr c2), if_neg ne10]
    cases e4; rfl
  · rw [if_neg c2, lo2] at e4
    rw [if_pos (Int32.not_le.mp c2), if_pos rfl]
    cases e4; rfl

