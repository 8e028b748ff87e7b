theorem toInt64T (x : Int32) : (Int32.toInt64 x).toInt = x.toInt := Int32.toInt_toInt64 x
theorem zA : (5019589575 : Int64).toInt = 5019589575 := by decide
theorem zK : (1000 : Int64).toInt = 1000 := by decide
theorem divEq {A W P H : Int} (hA : 0 < A) (hW : 0 < W) (h : P * W = A * H) : 1000 * P / A = 1000 * H / W := by
  rw [← Int.mul_ediv_mul_of_pos_left (1000 * P) A hW, ← Int.mul_ediv_mul_of_pos_left (1000 * H) W hA]
  have e : 1000 * P * W = 1000 * H * A := by rw [Int.mul_assoc, h, Int.mul_comm A H, Int.mul_assoc]
  rw [e, Int.mul_comm A W]
section BO
variable {ya pa sa ta ki fi he tk tf th : Nat → Int32} {tr : Nat → Option Nat} {yd wd pc tc bl : Int32}
theorem best_at (hL : LV yd wd pc tc bl ya pa sa ta ki fi he) (hR : TRel tr tk tf th ki fi he tc) (hbl : 0 ≤ bl.toInt) (h1 : 1 ≤ tc.toInt) : ∃ (H W : Int32) (P : Int64), (0 ≤ H.toInt ∧ H.toInt ≤ 28) ∧ (1 ≤ W.toInt ∧ W.toInt ≤ 27) ∧ P.toInt * W.toInt = 5019589575 * H.toInt ∧ 0 ≤ P.toInt ∧ f_X5_bestParts yd wd pc tc bl ya pa sa ta ki fi he = P ∧ ∀ x : Int64, f_X0_bestOf yd wd pc tc bl ya pa sa ta tr tk tf th x = x * Int32.toInt64 H / Int32.toInt64 W := by
  have hL0 := hL
  obtain ⟨hy, hw, hp, htc, hb, hq, hM⟩ := hL0
  obtain ⟨e, hV⟩ := eq_best0 hL hR hbl h1
  have vb : vp_in bl 5 := vp_of (by omega)
  have hB : f_X5_bestParts yd wd pc tc bl ya pa sa ta ki fi he = f_X5_partsOf yd wd ya pa sa ta ki fi he (f_X5_bestNow yd wd pc tc bl ya pa sa ta ki fi he / (10 : Int32)) bl (f_X5_bestNow yd wd pc tc bl ya pa sa ta ki fi he - f_X5_bestNow yd wd pc tc bl ya pa sa ta ki fi he / (10 : Int32) * (10 : Int32)) := by
    unfold f_X5_bestParts
    rw [lt1_def, lt1_def, lt1_def]
  have hO : ∀ (r : Int32) (x : Int64), f_X0_bestMove yd wd pc tc bl ya pa sa ta tr tk tf th = r → f_X0_bestOf yd wd pc tc bl ya pa sa ta tr tk tf th x = (if (1 : Int32) ≤ f_X0_ways sa ta tr tk tf th (r / (10 : Int32)) bl (r - r / (10 : Int32) * (10 : Int32)) then x * Int32.toInt64 (f_X0_waysHad yd wd ya pa sa ta tr tk tf th (r / (10 : Int32)) bl (r - r / (10 : Int32) * (10 : Int32))) / Int32.toInt64 (f_X0_ways sa ta tr tk tf th (r / (10 : Int32)) bl (r - r / (10 : Int32) * (10 : Int32))) else 0) := by
    intro r x hr
    unfold f_X0_bestOf
    rw [lt1_def, hr, lt1_def, lt1_def]
  rw [← e] at hB
  rw [hB]
  generalize hr : f_X0_bestMove yd wd pc tc bl ya pa sa ta tr tk tf th = r at hV
  have hO2 := fun x => hO r x hr
  unfold VB at hV
  have rt := tr32 (x := r) (y := (10 : Int32)) 10 rfl (by omega) hV.1
  have dt := td32 (x := r) (y := (10 : Int32)) 10 rfl (by omega) hV.1
  have hr0 := hV.1
  have ht : 0 ≤ (r / (10 : Int32)).toInt ∧ (r / (10 : Int32)).toInt < tc.toInt := by omega
  have hv : 0 ≤ (r - r / (10 : Int32) * (10 : Int32)).toInt ∧ (r - r / (10 : Int32) * (10 : Int32)).toInt < pc.toInt := by rw [rt]; omega
  generalize r - r / (10 : Int32) * (10 : Int32) = v at hv hO2 ⊢
  generalize r / (10 : Int32) = t at ht hO2 ⊢
  have vt : vp_in t 6 := vp_of (by omega)
  have hP := parts_mul (m_yards := yd) (m_wind := wd) (m_place := ya) (m_pace := pa) (v3 := v) hM vt vb
  have hW := each_27 (p := v) hM vt vb
  have hH := hadB (m_yards := yd) (m_wind := wd) (m_place := ya) (m_pace := pa) (m_skillOf := sa) (m_tired := ta) (m_kind := ki) (m_figure := fi) (m_height := he) (v1 := t) (v2 := bl) (v3 := v)
  have hP0 := (partsB (m_yards := yd) (m_wind := wd) (m_place := ya) (m_pace := pa) (v3 := v) hM vt vb).1
  refine ⟨_, _, _, hH, hW, hP, hP0, rfl, fun x => ?_⟩
  rw [hO2 x, eq_ways hR ht, if_pos (ofLe (show (1 : Int32).toInt ≤ _ from hW.1)), eq_waysHad hR hL ht vb (vp_of (by omega))]
theorem mul64 {x : Int64} {X : Int} (hx : x.toInt = X) (hX : 0 ≤ X ∧ X ≤ 5019589575) {H : Int32} (hH : 0 ≤ H.toInt ∧ H.toInt ≤ 28) : (x * Int32.toInt64 H).toInt = X * H.toInt ∧ 0 ≤ X * H.toInt ∧ X * H.toInt ≤ 140548508100 := by
  have h0 : 0 ≤ X * H.toInt := Int.mul_nonneg hX.1 hH.1
  have h1 : X * H.toInt ≤ 5019589575 * 28 := Int.mul_le_mul hX.2 hH.2 hH.1 (by decide)
  have e := tm64 (x := x) (y := Int32.toInt64 H) (by rw [hx, toInt64T]; omega) (by rw [hx, toInt64T]; omega)
  rw [hx, toInt64T] at e
  exact ⟨e, h0, by omega⟩
theorem bestOf_A (hL : LV yd wd pc tc bl ya pa sa ta ki fi he) (hR : TRel tr tk tf th ki fi he tc) (hbl : 0 ≤ bl.toInt) (h1 : 1 ≤ tc.toInt) : f_X0_bestOf yd wd pc tc bl ya pa sa ta tr tk tf th 5019589575 = f_X5_bestParts yd wd pc tc bl ya pa sa ta ki fi he ∧ 0 ≤ (f_X5_bestParts yd wd pc tc bl ya pa sa ta ki fi he).toInt ∧ (f_X5_bestParts yd wd pc tc bl ya pa sa ta ki fi he).toInt ≤ 140548508100 := by
  obtain ⟨H, W, P, hH, hW, hP, hP0, e1, e2⟩ := best_at hL hR hbl h1
  rw [e1, e2]
  obtain ⟨m1, m2, m3⟩ := mul64 zA (by decide) hH
  have hd := td64 (x := 5019589575 * Int32.toInt64 H) (y := Int32.toInt64 W) (by rw [toInt64T]; omega) (by rw [m1]; exact m2)
  have e3 : (5019589575 * Int32.toInt64 H / Int32.toInt64 W).toInt = P.toInt := by
    rw [hd, m1, toInt64T, ← hP]
    exact Int.mul_ediv_cancel _ (by omega)
  refine ⟨Int64.toInt_inj.mp e3, hP0, ?_⟩
  have h3 : P.toInt * 1 ≤ P.toInt * W.toInt := Int.mul_le_mul_of_nonneg_left (by omega) hP0
  omega
theorem bestOf_K (hL : LV yd wd pc tc bl ya pa sa ta ki fi he) (hR : TRel tr tk tf th ki fi he tc) (hbl : 0 ≤ bl.toInt) (h1 : 1 ≤ tc.toInt) : ∃ X : Int64, f_X0_bestOf yd wd pc tc bl ya pa sa ta tr tk tf th 1000 = X ∧ (0 ≤ X.toInt ∧ X.toInt ≤ 140548508100) ∧ (f_X5_ofThousand (f_X5_bestParts yd wd pc tc bl ya pa sa ta ki fi he)).toInt = X.toInt ∧ X.toInt ≤ 28000 := by
  obtain ⟨H, W, P, hH, hW, hP, hP0, e1, e2⟩ := best_at hL hR hbl h1
  rw [e1, e2]
  obtain ⟨m1, m2, m3⟩ := mul64 zK (by decide) hH
  have hd := td64 (x := 1000 * Int32.toInt64 H) (y := Int32.toInt64 W) (by rw [toInt64T]; omega) (by rw [m1]; exact m2)
  have hv : (1000 * Int32.toInt64 H / Int32.toInt64 W).toInt = 1000 * H.toInt / W.toInt := by rw [hd, m1, toInt64T]
  have h3 : P.toInt * 1 ≤ P.toInt * W.toInt := Int.mul_le_mul_of_nonneg_left (by omega) hP0
  have hPm : P.toInt ≤ 140548508100 := by omega
  have hq0 : 0 ≤ 1000 * H.toInt / W.toInt := Int.ediv_nonneg (by omega) (by omega)
  have hq1 : 1000 * H.toInt / W.toInt ≤ 28000 := Int.le_trans (Int.ediv_le_self _ (by omega)) (by omega)
  have k1 := tm64 (x := 1000) (y := P) (by rw [zK]; omega) (by rw [zK]; omega)
  rw [zK] at k1
  have k2 := td64 (x := 1000 * P) (y := 5019589575) (by rw [zA]; decide) (by rw [k1]; omega)
  rw [k1, zA, divEq (by decide) (by omega) hP] at k2
  refine ⟨_, rfl, by rw [hv]; omega, ?_, by rw [hv]; exact hq1⟩
  unfold f_X5_ofThousand
  rw [Int64.toInt_toInt32, k2, hv]
  exact bm32 (by omega) (by omega)
end BO
theorem LV_skill {ya pa sa ta ki fi he : Nat → Int32} {yd wd pc tc bl : Int32} {k : Nat} {y : Int32} (hL : LV yd wd pc tc bl ya pa sa ta ki fi he) (hy : 0 ≤ y.toInt ∧ y.toInt ≤ 9) : LV yd wd pc tc bl ya pa (upd sa k y) ta ki fi he := by
  obtain ⟨h1, h2, h3, h4, h5, h6, h7⟩ := hL
  exact ⟨h1, h2, h3, h4, h5, h6, MV_skill h7 hy⟩
theorem eq_worth {ya pa sa ta ki fi he tk tf th b1 b2 b3 b4 b1' b2' b3' b4' : Nat → Int32} {tr mtr mtr' : Nat → Option Nat} {yd wd pc tc bl tm r a1 a2 a3 a4 a5 a6 a1' a2' a3' a4' a5' a6' : Int32} (hL : LV yd wd pc tc bl ya pa sa ta ki fi he) (hR : TRel tr tk tf th ki fi he tc) (e4 : f_X4_worth yd wd pc tc bl tm ya pa sa ta tr a1 a2 a3 a4 a5 a6 b1 b2 b3 b4 mtr tk tf th = (r, a1', a2', a3', a4', a5', a6', b1', b2', b3', b4', mtr')) : f_X5_worth yd wd pc tc bl ya pa sa ta ki fi he = (r, sa) := by
  have z0 : (0 : Int32).toInt = 0 := rfl
  have z1 : (1 : Int32).toInt = 1 := rfl
  have z9 : (9 : Int32).toInt = 9 := rfl
  unfold f_X4_worth at e4
  unfold f_X5_worth
  simp only [lt1] at e4 ⊢
  rw [inplay_eq hL.2.2.2.2.1]
  by_cases c : f_X0_isInPlay pc tc bl = 0
  · rw [if_pos c] at e4
    rw [if_pos c]
    cases e4; rfl
  rw [if_neg c] at e4
  rw [if_neg c, upd_back, upd_back]
  have hpl := isInPlay_t rfl c
  have hp := hL.2.2.1
  have hs := (hL.2.2.2.2.2.2.2 bl.toNatClampNeg (by have := clampT hpl.1.1; omega)).1
  have ha := ta32 (x := sa bl.toNatClampNeg) (y := (1 : Int32)) (by omega) (by omega)
  have key : ∀ z : Int32, (if sa bl.toNatClampNeg + (1 : Int32) < (9 : Int32) then sa bl.toNatClampNeg + (1 : Int32) else (9 : Int32)) = z → (0 ≤ z.toInt ∧ z.toInt ≤ 9) → (if f_X5_ofThousand (f_X5_bestParts yd wd pc tc bl ya pa (upd sa bl.toNatClampNeg z) ta ki fi he) ≤ f_X5_ofThousand (f_X5_bestParts yd wd pc tc bl ya pa sa ta ki fi he) then ((0 : Int32), sa) else (f_X5_ofThousand (f_X5_bestParts yd wd pc tc bl ya pa (upd sa bl.toNatClampNeg z) ta ki fi he) - f_X5_ofThousand (f_X5_bestParts yd wd pc tc bl ya pa sa ta ki fi he), sa)) = (r, sa) := by
    intro z hz hzr
    rw [hz] at e4
    obtain ⟨X, x1, x2, x3, x4⟩ := bestOf_K hL hR hpl.1.1 (by omega)
    obtain ⟨Y, y1, y2, y3, y4⟩ := bestOf_K (LV_skill (k := bl.toNatClampNeg) hL hzr) hR hpl.1.1 (by omega)
    rw [x1, y1] at e4
    generalize f_X5_ofThousand (f_X5_bestParts yd wd pc tc bl ya pa sa ta ki fi he) = x at x3 ⊢
    generalize f_X5_ofThousand (f_X5_bestParts yd wd pc tc bl ya pa (upd sa bl.toNatClampNeg z) ta ki fi he) = y at y3 ⊢
    have d1 := ts64 (x := Y) (y := X) (by omega) (by omega)
    have d2 : (Int64.toInt32 (Y - X)).toInt = Y.toInt - X.toInt := by
      rw [Int64.toInt_toInt32, d1]
      exact bm32 (by omega) (by omega)
    have d3 := ts32 (x := y) (y := x) (by omega) (by omega)
    have e5 : Int64.toInt32 (Y - X) = y - x := ofEq (by omega)
    rw [e5] at e4
    by_cases c2 : y ≤ x
    · have q := leT c2
      rw [if_pos c2]
      rw [if_neg (fun cc => by have := ltT cc; omega)] at e4
      cases e4; rfl
    · have q := nleT c2
      rw [if_neg c2]
      rw [if_pos (ofLt (by omega))] at e4
      cases e4; rfl
  by_cases c9 : (9 : Int32) ≤ sa bl.toNatClampNeg
  · rw [if_pos c9]
    have q := leT c9
    exact key 9 (if_neg (fun cc => by have := ltT cc; omega)) (by omega)
  · rw [if_neg c9]
    have q := nleT c9
    refine key (sa bl.toNatClampNeg + 1) ?_ (by omega)
    by_cases c8 : sa bl.toNatClampNeg + (1 : Int32) < (9 : Int32)
    · rw [if_pos c8]
    · have q8 := nltT c8
      rw [if_neg c8]
      exact ofEq (by omega)

