theorem ch_L {tc v1 : Int32} (ht : 0 ≤ tc.toInt ∧ tc.toInt ≤ 6) (hv : v1.toInt ≤ 3) : ∀ (n : Nat) (a i : Int32), (v1.toInt - i.toInt).toNat < n → (i.toInt = 0 ∧ a.toInt = 1 ∨ i.toInt = 1 ∧ a.toInt ≤ 6 ∧ (1 ≤ tc.toInt ∨ a.toInt = 0) ∨ i.toInt = 2 ∧ a.toInt ≤ 36 ∧ (1 ≤ tc.toInt ∨ a.toInt = 0) ∨ i.toInt = 3 ∧ a.toInt ≤ 216 ∧ (1 ≤ tc.toInt ∨ a.toInt = 0)) ∧ 0 ≤ a.toInt → (i.toInt < v1.toInt ∨ 1 ≤ i.toInt) → 0 ≤ (f_X4_choicesOf_L4 tc v1 n a i).toInt ∧ (f_X4_choicesOf_L4 tc v1 n a i).toInt ≤ 216 ∧ (1 ≤ tc.toInt ∨ (f_X4_choicesOf_L4 tc v1 n a i).toInt = 0) := by
  intro n
  induction n with
  | zero => intro a i h; omega
  | succ n ih =>
    intro a i hm hI h1
    rw [f_X4_choicesOf_L4]
    by_cases c : v1 ≤ i
    · have q := leT c
      rw [if_pos c]; omega
    · rw [if_neg c]
      have q := nleT c
      have hi := inc_nle c
      have hM := mulT' (a := a) (t := tc) (by omega) (by omega)
      exact ih (a * tc) (i + 1) (by omega) (by omega) (by omega)
theorem ch_rng {tc v1 : Int32} (ht : 0 ≤ tc.toInt ∧ tc.toInt ≤ 6) (hv : 1 ≤ v1.toInt ∧ v1.toInt ≤ 3) : 0 ≤ (f_X4_choicesOf tc v1).toInt ∧ (f_X4_choicesOf tc v1).toInt ≤ 216 ∧ (1 ≤ tc.toInt ∨ (f_X4_choicesOf tc v1).toInt = 0) := by
  have z0 : (0 : Int32).toInt = 0 := rfl
  have z1 : (1 : Int32).toInt = 1 := rfl
  exact ch_L ht hv.2 4 1 0 (by omega) (by omega) (by omega)
theorem lo_ch {rf ya pa sa ta ki fi he st : Nat → Int32} {yd wd pc tc bl tm ik cu v1 v2 m l : Int32} : ∀ (n : Nat) (a i : Int32), (v1.toInt - i.toInt).toNat < n → f_X5_longest_L66 yd wd pc tc bl tm ik cu rf ya pa sa ta ki fi he st v1 v2 n a i m l = f_X5_longest_L90 yd wd pc tc bl tm rf ya pa sa ta ki fi he v1 v2 217 (f_X4_choicesOf_L4 tc v1 n a i) 0 ik cu m l st := by
  intro n
  induction n with
  | zero => intro a i h; omega
  | succ n ih =>
    intro a i hm
    rw [f_X5_longest_L66, f_X4_choicesOf_L4]
    by_cases c : v1 ≤ i
    · rw [if_pos c, if_pos c]
    · rw [if_neg c, if_neg c]
      have q := nleT c
      have hi := inc_nle c
      exact ih (a * tc) (i + 1) (by omega)
/-- one row of touches, by the same one -/
theorem tl_L {pa sa ki fi he tk tf th : Nat → Int32} {tr : Nat → Option Nat} {yd wd pc tc v2 bl : Int32} (hR : TRel tr tk tf th ki fi he tc) (h1 : 1 ≤ tc.toInt) (hbl : 0 ≤ bl.toInt) : ∀ (n : Nat) (left i tm : Int32) (ya ta : Nat → Int32), (v2.toInt - i.toInt).toNat < n → 0 ≤ i.toInt → 0 ≤ left.toInt → LV yd wd pc tc bl ya pa sa ta ki fi he → ∃ r bl' tm' ya' ta', f_X4_isHadThroughout_L16 yd wd pc tc pa sa tr tk tf th v2 n left i bl tm ya ta = (r, yd, wd, pc, tc, bl', tm', ya', pa, sa, ta', tr) ∧ (¬ r = 0 → 0 ≤ (ta' bl'.toNatClampNeg).toInt) ∧ ∀ (m l ik cu : Int32) (st : Nat → Int32), f_X5_triesLong_L20 yd wd pc tc m l pa ki fi he v2 n bl 1 left i bl tm ik cu ya ta st = (if r = 0 then (0, (45 : Int32) * (1 : Int32) + (44 : Int32), m, l, st) else (0, (45 : Int32) * (1 : Int32) + (44 : Int32), m + 1, (if l < 0 then ta' bl'.toNatClampNeg else if l ≤ ta' bl'.toNatClampNeg then l else ta' bl'.toNatClampNeg), st)) := by
  intro n
  induction n with
  | zero => intro left i tm ya ta h; omega
  | succ n ih =>
    intro left i tm ya ta hm hi0 hl hL
    have hL0 := hL
    obtain ⟨hy, hw, hp, htc, hb, hq, hM⟩ := hL0
    rw [f_X4_isHadThroughout_L16]
    by_cases c : v2 ≤ i
    · rw [if_pos c]
      refine ⟨_, _, _, _, _, rfl, fun _ => (hM.2 _ (by have := clampT hbl; omega)).2.1, fun m l ik cu st => ?_⟩
      rw [f_X5_triesLong_L20, if_pos c, if_neg ne10, if_neg ne10]
      by_cases c1 : l < (0 : Int32)
      · rw [if_pos c1, if_pos c1]
      · rw [if_neg c1, if_neg c1]
        by_cases c2 : l ≤ ta bl.toNatClampNeg
        · rw [if_pos c2, if_pos c2]
        · rw [if_neg c2, if_neg c2]
    · have q := nleT c
      have hi := inc_nle c
      have z1 : (1 : Int32).toInt = 1 := rfl
      rw [if_neg c, if_neg (fun cc => by have := ltT cc; omega)]
      have rt := tr32 (x := left) (y := tc) tc.toInt rfl (by omega) hl
      have re1 := Int.emod_nonneg left.toInt (show tc.toInt ≠ 0 by omega)
      have re2 := Int.emod_lt_of_pos left.toInt (show 0 < tc.toInt by omega)
      have dt := td32 (x := left) (y := tc) tc.toInt rfl (by omega) hl
      have dn := Int.ediv_nonneg hl (show 0 ≤ tc.toInt by omega)
      have d1 : 0 ≤ (left - left / tc * tc).toInt ∧ (left - left / tc * tc).toInt < tc.toInt := by omega
      have ht : vp_in (left - left / tc * tc) 6 := vp_of (by omega)
      rw [eq_play hR d1 htc.2 hp hM]
      have hx := LV_keeps (tm := tm) (e := 0) (to := bl) hL d1 (by omega)
      have hU : ∀ (m l ik cu : Int32) (st : Nat → Int32), f_X5_triesLong_L20 yd wd pc tc m l pa ki fi he v2 (n + 1) bl 1 left i bl tm ik cu ya ta st = lt5 (f_X5_keeps yd wd pc bl tm ya pa ta ki fi he (left - left / tc * tc) bl (0 : Int32)) (fun r2003 u2003_1 u2003_2 u2003_3 u2003_4 => f_X5_triesLong_L20 yd wd pc tc m l pa ki fi he v2 n bl r2003 (left / tc) (i + (1 : Int32)) u2003_1 u2003_2 ik cu u2003_3 u2003_4 st) := by
        intro m l ik cu st
        rw [f_X5_triesLong_L20, if_neg c, if_neg ne10]
      rcases ex : f_X5_keeps yd wd pc bl tm ya pa ta ki fi he (left - left / tc * tc) bl (0 : Int32) with ⟨x1, x2, x3, x4, x5⟩
      rw [ex] at hx hU
      have hk := keeps_bl ht hp hM ex
      have hone : x1 = 0 ∨ x1 = 1 := by
        rw [keeps_eq ht hp hM] at ex
        have e1 := congrArg Prod.fst ex
        dsimp only at e1
        rw [← e1]
        unfold f_X5_isHad
        simp only [lt1]
        (repeat' split) <;> first | exact Or.inl rfl | exact Or.inr rfl
      rw [lt5_def]
      by_cases c2 : x1 = 0
      · rw [if_pos c2]
        refine ⟨_, _, _, _, _, rfl, fun h => absurd rfl h, fun m l ik cu st => ?_⟩
        rw [hU, lt5_def, if_pos rfl]
        obtain ⟨k, rfl⟩ : ∃ k, n = k + 1 := ⟨n - 1, by omega⟩
        rw [f_X5_triesLong_L20, if_pos c2, if_pos c2]
        by_cases c3 : v2 ≤ i + 1
        · rw [if_pos c3]
        · rw [if_neg c3]
      · rw [if_neg c2]
        have e2 := hk.2 c2
        subst e2
        obtain ⟨r, bl', tm', ya', ta', g1, g2, g3⟩ := ih (left / tc) (i + 1) x3 x4 x5 (by omega) (by omega) (by omega) hx
        refine ⟨r, bl', tm', ya', ta', g1, g2, fun m l ik cu st => ?_⟩
        rw [hU, lt5_def, hone.resolve_left c2]
        exact g3 m l ik cu st
theorem lo_L {rf ya pa sa ta ki fi he tk tf th : Nat → Int32} {tr : Nat → Option Nat} {yd wd pc tc v1 v2 bl tm all : Int32} (hR : TRel tr tk tf th ki fi he tc) (hbl : 0 ≤ bl.toInt) (hL : LV yd wd pc tc bl ya pa sa ta ki fi he) (hv : 1 ≤ v1.toInt ∧ v1.toInt ≤ 3) (h1 : 1 ≤ tc.toInt ∨ all.toInt = 0) : ∀ (n : Nat) (m l v ik cu a1 a2 a3 a4 a5 a6 : Int32) (b1 b2 b3 b4 st : Nat → Int32) (mtr : Nat → Option Nat), (all.toInt - v.toInt).toNat < n → 0 ≤ v.toInt → 0 ≤ m.toInt → m.toInt ≤ v.toInt → (m.toInt = 0 ∧ l.toInt = -9 ∨ 1 ≤ m.toInt ∧ 0 ≤ l.toInt) → ∃ ik' cu' m' l' st', f_X5_longest_L90 yd wd pc tc bl tm rf ya pa sa ta ki fi he v1 v2 n all v ik cu m l st = ((f_X4_longest_L73 rf yd wd pc tc bl tm ya pa sa ta tr tk tf th v1 v2 n m l all v a1 a2 a3 a4 a5 a6 b1 b2 b3 b4 mtr).1, ik', cu', m', l', rf, st') ∧ (f_X4_longest_L73 rf yd wd pc tc bl tm ya pa sa ta tr tk tf th v1 v2 n m l all v a1 a2 a3 a4 a5 a6 b1 b2 b3 b4 mtr).2.1 = rf ∧ ∀ j : Nat, j < 45 → st' j = st j := by
  have z0 : (0 : Int32).toInt = 0 := rfl
  intro n
  induction n with
  | zero => intro m l v ik cu a1 a2 a3 a4 a5 a6 b1 b2 b3 b4 st mtr h; omega
  | succ n ih =>
    intro m l v ik cu a1 a2 a3 a4 a5 a6 b1 b2 b3 b4 st mtr hm hv0 hm0 hmv hml
    rw [f_X5_longest_L90, f_X4_longest_L73]
    by_cases c : all ≤ v
    · rw [if_pos c, if_pos c]
      by_cases c2 : v2 = 0
      · rw [if_pos c2, if_pos c2]; exact ⟨_, _, _, _, _, rfl, rfl, fun _ _ => rfl⟩
      · rw [if_neg c2, if_neg c2]; exact ⟨_, _, _, _, _, rfl, rfl, fun _ _ => rfl⟩
    · rw [if_neg c, if_neg c]
      have q := nleT c
      have hi := inc_nle c
      obtain ⟨r, bl', tm', ya', ta', g1, g2, g3⟩ := tl_L (v2 := v1) hR (by omega) hbl 4 v 0 tm ya ta (by omega) (by omega) hv0 hL
      have hA : f_X4_isHadThroughout yd wd pc tc bl tm ya pa sa ta tr tk tf th v v1 = (r, yd, wd, pc, tc, bl', tm', ya', pa, sa, ta', tr) := g1
      have hB : f_X5_triesLong yd wd pc tc bl tm m l ya pa sa ta ki fi he st v v1 = _ := g3 m l 1 ((45 : Int32) * (1 : Int32) + (44 : Int32)) (stK yd wd pc tc bl tm ya pa sa ta ki fi he st (1 : Int32))
      rw [hA, hB, lt12_def]
      have hmi : (m + 1).toInt = m.toInt + 1 := inc_lt (b := all) (ofLt (by omega))
      have hlow := stK_low yd wd pc tc bl tm ya pa sa ta ki fi he st
      by_cases c2 : r = 0
      · rw [if_pos c2, if_pos c2, lt5_def]
        obtain ⟨i', c', m', l', s', k1, k2, k3⟩ := ih m l (v + 1) 0 ((45 : Int32) * (1 : Int32) + (44 : Int32)) yd wd pc tc bl' tm' ya' pa sa ta' (stK yd wd pc tc bl tm ya pa sa ta ki fi he st (1 : Int32)) tr (by omega) (by omega) hm0 (by omega) hml
        exact ⟨i', c', m', l', s', k1, k2, fun j hj => (k3 j hj).trans (hlow j hj)⟩
      · rw [if_neg c2, if_neg c2, lt5_def]
        have ht0 := g2 c2
        generalize ta' bl'.toNatClampNeg = t at ht0 ⊢
        by_cases c3 : m = 0
        · have m0 : m.toInt = 0 := by rw [c3]; rfl
          rw [if_pos c3, if_pos (show l < (0 : Int32) from ofLt (by omega))]
          obtain ⟨i', c', m', l', s', k1, k2, k3⟩ := ih (m + 1) t (v + 1) 0 ((45 : Int32) * (1 : Int32) + (44 : Int32)) yd wd pc tc bl' tm' ya' pa sa ta' (stK yd wd pc tc bl tm ya pa sa ta ki fi he st (1 : Int32)) tr (by omega) (by omega) (by omega) (by omega) (by omega)
          exact ⟨i', c', m', l', s', k1, k2, fun j hj => (k3 j hj).trans (hlow j hj)⟩
        · have m1 : ¬ m.toInt = 0 := fun z => c3 (ofEq z)
          rw [if_neg c3, if_neg (show ¬ l < (0 : Int32) from fun cc => by have := ltT cc; omega)]
          have eT : (if t < l then t else l) = (if l ≤ t then l else t) := by
            by_cases c5 : l ≤ t
            · rw [if_pos c5, if_neg (Int32.not_lt.mpr c5)]
            · rw [if_neg c5, if_pos (Int32.not_le.mp c5)]
          rw [eT]
          have hT : 0 ≤ (if l ≤ t then l else t).toInt := by
            split <;> omega
          obtain ⟨i', c', m', l', s', k1, k2, k3⟩ := ih (m + 1) (if l ≤ t then l else t) (v + 1) 0 ((45 : Int32) * (1 : Int32) + (44 : Int32)) yd wd pc tc bl' tm' ya' pa sa ta' (stK yd wd pc tc bl tm ya pa sa ta ki fi he st (1 : Int32)) tr (by omega) (by omega) (by omega) (by omega) (by omega)
          exact ⟨i', c', m', l', s', k1, k2, fun j hj => (k3 j hj).trans (hlow j hj)⟩
theorem eq_longest {rf ya pa sa ta ki fi he tk tf th st rf' b1 b2 b3 b4 b1' b2' b3' b4' : Nat → Int32} {tr mtr mtr' : Nat → Option Nat} {yd wd pc tc bl tm ik cu lm ll v1 v2 r a1 a2 a3 a4 a5 a6 a1' a2' a3' a4' a5' a6' : Int32} (hL : LV yd wd pc tc bl ya pa sa ta ki fi he) (hR : TRel tr tk tf th ki fi he tc) (e4 : f_X4_longest rf yd wd pc tc bl tm ya pa sa ta tr a1 a2 a3 a4 a5 a6 b1 b2 b3 b4 mtr tk tf th v1 v2 = (r, rf', a1', a2', a3', a4', a5', a6', b1', b2', b3', b4', mtr')) : ∃ ik' cu' lm' ll' st', f_X5_longest yd wd pc tc bl tm ik cu lm ll rf ya pa sa ta ki fi he st v1 v2 = (r, ik', cu', lm', ll', rf', st') ∧ ∀ n : Nat, n < 45 → st' n = st n := by
  have hb := hL.2.2.2.2.1
  have z0 : (0 : Int32).toInt = 0 := rfl
  have z1 : (1 : Int32).toInt = 1 := rfl
  have z3 : (3 : Int32).toInt = 3 := rfl
  have zn : (-9 : Int32).toInt = -9 := rfl
  unfold f_X4_longest at e4
  unfold f_X5_longest
  rw [lt1_def]
  by_cases c1 : (1 : Int32) ≤ v1
  · rw [if_pos c1] at e4
    by_cases c2 : v1 ≤ (3 : Int32)
    · rw [if_pos c2] at e4
      rw [bnd_ok c1 c2, if_pos rfl, lt1_def]
      unfold f_X5_isIn
      by_cases c3 : v2 < (0 : Int32)
      · rw [if_pos c3, no2] at e4
        rw [if_pos c3, if_pos rfl]
        simp only [lt2] at e4 ⊢
        cases e4
        exact ⟨_, _, _, _, _, rfl, fun _ _ => rfl⟩
      rw [if_neg c3] at e4
      rw [if_neg c3]
      by_cases c4 : v2 ≤ (1 : Int32)
      · rw [if_pos c4, lt1_def] at e4
        rw [if_neg (Int32.not_lt.mpr c4), if_neg ne10]
        by_cases c5 : (0 : Int32) ≤ bl
        · rw [up_yes hb c5, if_neg ne10, lt1_def] at e4
          rw [if_pos c5]
          have q1 := leT c1
          have q2 := leT c2
          have q5 := leT c5
          have hC := ch_rng (tc := tc) (v1 := v1) hL.2.2.2.1 (by omega)
          have hU : f_X5_longest_L66 yd wd pc tc bl tm ik cu rf ya pa sa ta ki fi he st v1 v2 4 1 0 0 (-9) = f_X5_longest_L90 yd wd pc tc bl tm rf ya pa sa ta ki fi he v1 v2 217 (f_X4_choicesOf tc v1) 0 ik cu 0 (-9) st := lo_ch 4 1 0 (by omega)
          rw [hU]
          generalize f_X4_choicesOf tc v1 = all at e4 hC ⊢
          obtain ⟨i', c', m', l', s', k1, k2, k3⟩ := lo_L (rf := rf) (v1 := v1) (v2 := v2) (tm := tm) (all := all) hR (by omega) hL (by omega) hC.2.2 217 0 (-9) 0 ik cu a1 a2 a3 a4 a5 a6 b1 b2 b3 b4 st mtr (by omega) (by omega) (by omega) (by omega) (by omega)
          rw [e4] at k1 k2
          dsimp only at k2
          rw [k2]
          exact ⟨_, _, _, _, _, k1, k3⟩
        · rw [up_no hb c5, if_pos rfl, no3] at e4
          rw [if_neg c5]
          simp only [lt2] at e4 ⊢
          cases e4
          exact ⟨_, _, _, _, _, rfl, fun _ _ => rfl⟩
      · rw [if_neg c4, no2] at e4
        rw [if_pos (Int32.not_le.mp c4), if_pos rfl]
        simp only [lt2] at e4 ⊢
        cases e4
        exact ⟨_, _, _, _, _, rfl, fun _ _ => rfl⟩
    · rw [if_neg c2, no6] at e4
      rw [bnd_hi c1 c2, if_neg ne6]
      simp only [lt2] at e4 ⊢
      cases e4
      exact ⟨_, _, _, _, _, rfl, fun _ _ => rfl⟩
  · rw [if_neg c1, no4] at e4
    rw [bnd_lo c1, if_neg ne4]
    simp only [lt2] at e4 ⊢
    cases e4
    exact ⟨_, _, _, _, _, rfl, fun _ _ => rfl⟩

