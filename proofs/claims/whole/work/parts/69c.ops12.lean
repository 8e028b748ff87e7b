/-- the class's touches by values, against the model's -/
def TK (tc : Int32) (kv fv hv ki fi he : Nat → Int32) : Prop := ∀ i : Nat, (i : Int) < tc.toInt → kv i = ki i ∧ fv i = fi i ∧ hv i = he i
def CK (kv fv hv : Nat → Int32) : Prop := ∀ i : Nat, i < 6 → (0 ≤ (kv i).toInt ∧ (kv i).toInt ≤ 5) ∧ (0 ≤ (fv i).toInt ∧ (fv i).toInt ≤ 9) ∧ 0 ≤ (hv i).toInt ∧ (hv i).toInt ≤ 9
theorem pl_eq {yd pc p : Int32} {ya pa sa ta T : Nat → Int32} (hp : 0 ≤ pc.toInt ∧ pc.toInt ≤ 5) : f_X5_comesPlayer yd pc ya pa sa ta T p = f_X0_addPlayer yd pc ya pa sa ta (T p.toNatClampNeg) (T (p + 1).toNatClampNeg) (T (p + 2).toNatClampNeg) := by
  have z5 : (5 : Int32).toInt = 5 := rfl
  unfold f_X5_comesPlayer f_X0_addPlayer f_X5_isIn
  simp only [lt1]
  rw [eq_yard]
  by_cases c : (5 : Int32) ≤ pc
  · have q := leT c
    have e : pc = 5 := ofEq (by omega)
    rw [if_pos c, if_pos e]
    (repeat' split) <;> rfl
  · have q := nleT c
    rw [if_neg c, if_neg (fun e : pc = 5 => by rw [e] at q; omega)]
    by_cases c1 : f_X5_isYard yd (T p.toNatClampNeg) = 0
    · rw [if_pos c1, if_pos c1]
    · rw [if_neg c1, if_neg c1]
      by_cases c2 : T (p + 1).toNatClampNeg < (1 : Int32)
      · rw [if_pos c2, if_pos c2, if_pos rfl]
      · rw [if_neg c2, if_neg c2]
        by_cases c3 : T (p + 1).toNatClampNeg ≤ (3 : Int32)
        · rw [if_pos c3, if_neg (Int32.not_lt.mpr c3), if_neg ne10]
        · rw [if_neg c3, if_pos (Int32.not_le.mp c3), if_pos rfl]
theorem pl_rng {yd wd pc tc bl a0 a1 a2 r pc' : Int32} {ya pa sa ta ki fi he ya' pa' sa' ta' : Nat → Int32} (hL : LV yd wd pc tc bl ya pa sa ta ki fi he) (h2 : 0 ≤ a2.toInt ∧ a2.toInt ≤ 9) (e : f_X0_addPlayer yd pc ya pa sa ta a0 a1 a2 = (r, pc', ya', pa', sa', ta')) : LV yd wd pc' tc bl ya' pa' sa' ta' ki fi he := by
  have hL0 := hL
  obtain ⟨hy, hw, hp, htc, hb, hq, hM⟩ := hL0
  have z5 : (5 : Int32).toInt = 5 := rfl
  have z1 : (1 : Int32).toInt = 1 := rfl
  have z3 : (3 : Int32).toInt = 3 := rfl
  have z0 : (0 : Int32).toInt = 0 := rfl
  unfold f_X0_addPlayer at e
  rw [lt1_def, eq_yard, yard_iff] at e
  by_cases c : (5 : Int32) ≤ pc
  · rw [if_pos c] at e; cases e; exact hL
  rw [if_neg c] at e
  have q := nleT c
  have hi := inc_nle c
  by_cases c1 : 0 ≤ a0.toInt ∧ a0.toInt < yd.toInt
  · rw [if_pos c1, if_neg ne10] at e
    by_cases c2 : a1 < (1 : Int32)
    · rw [if_pos c2] at e; cases e; exact hL
    rw [if_neg c2] at e
    by_cases c3 : a1 ≤ (3 : Int32)
    · rw [if_pos c3] at e
      have q2 := nltT c2
      have q3 := leT c3
      cases e
      exact ⟨hy, hw, by omega, htc, by omega, fun j hj => ⟨upd_rng (fun j hj => (hq j hj).1) (by omega) j hj, upd_rng (fun j hj => (hq j hj).2) (by omega) j hj⟩, hM.1, fun j hj => ⟨upd_rng (fun j hj => (hM.2 j hj).1) h2 j hj, upd_rng (fun j hj => (hM.2 j hj).2) (by omega) j hj⟩⟩
    · rw [if_neg c3] at e; cases e; exact hL
  · rw [if_neg c1, if_pos rfl] at e; cases e; exact hL
theorem to_eq {tc p a0 a1 a2 : Int32} {kv fv hv ki fi he T : Nat → Int32} (ht : 0 ≤ tc.toInt ∧ tc.toInt ≤ 6) (e0 : T p.toNatClampNeg = a0) (e1 : T (p + 1).toNatClampNeg = a1) (e2 : T (p + 2).toNatClampNeg = a2) (h0 : 0 ≤ a0.toInt) (h1 : 0 ≤ a1.toInt ∧ a1.toInt ≤ 9) (h2 : 0 ≤ a2.toInt ∧ a2.toInt ≤ 9) (hT : TK tc kv fv hv ki fi he) (hC : CK kv fv hv) (hM : ∀ j, j < 6 → (0 ≤ (ki j).toInt ∧ (ki j).toInt ≤ 5) ∧ (0 ≤ (fi j).toInt ∧ (fi j).toInt ≤ 9) ∧ 0 ≤ (he j).toInt ∧ (he j).toInt ≤ 9) : ∃ r tc' kv' fv' hv' ki' fi' he', f_X0_addTouch tc kv fv hv a0 a1 a2 = (r, tc', kv', fv', hv') ∧ f_X5_comesTouch tc ki fi he T p = (r, tc', ki', fi', he') ∧ TK tc' kv' fv' hv' ki' fi' he' ∧ CK kv' fv' hv' ∧ (0 ≤ tc'.toInt ∧ tc'.toInt ≤ 6) ∧ ∀ j, j < 6 → (0 ≤ (ki' j).toInt ∧ (ki' j).toInt ≤ 5) ∧ (0 ≤ (fi' j).toInt ∧ (fi' j).toInt ≤ 9) ∧ 0 ≤ (he' j).toInt ∧ (he' j).toInt ≤ 9 := by
  have z0 : (0 : Int32).toInt = 0 := rfl
  have z1 : (1 : Int32).toInt = 1 := rfl
  have z5 : (5 : Int32).toInt = 5 := rfl
  have z6 : (6 : Int32).toInt = 6 := rfl
  unfold f_X0_addTouch f_X5_comesTouch
  rw [e0, e1, e2]
  by_cases c5 : (5 : Int32) < a0
  · rw [if_pos c5, if_pos c5]
    refine ⟨0, tc, kv, fv, hv, ki, fi, he, ?_, rfl, hT, hC, ht, hM⟩
    split <;> rfl
  rw [if_neg c5, if_neg c5]
  have q5 := nltT c5
  by_cases c0 : a2 = 0
  · rw [if_pos c0, if_neg (show ¬ (1 : Int32) ≤ a2 from fun c => by have := leT c; rw [c0] at this; omega)]
    refine ⟨0, tc, kv, fv, hv, ki, fi, he, ?_, rfl, hT, hC, ht, hM⟩
    split <;> rfl
  have n0 : ¬ a2.toInt = 0 := fun z => c0 (ofEq z)
  rw [if_neg c0, if_pos (show (1 : Int32) ≤ a2 from ofLe (by omega))]
  by_cases c6 : (6 : Int32) ≤ tc
  · have q := leT c6
    rw [if_pos c6, if_pos (ofEq (show tc.toInt = (6 : Int32).toInt by omega))]
    exact ⟨0, tc, kv, fv, hv, ki, fi, he, rfl, rfl, hT, hC, ht, hM⟩
  · have q := nleT c6
    have hi := inc_nle c6
    have hc := clampT ht.1
    rw [if_neg c6, if_neg (fun e : tc = 6 => by rw [e] at q; omega)]
    refine ⟨1, tc + 1, _, _, _, _, _, _, rfl, rfl, ?_, ?_, by omega, ?_⟩
    · intro i hi2
      by_cases e : i = tc.toNatClampNeg
      · subst e; rw [upd_self, upd_self, upd_self, upd_self, upd_self, upd_self]; exact ⟨rfl, rfl, rfl⟩
      · rw [upd_ne _ _ e, upd_ne _ _ e, upd_ne _ _ e, upd_ne _ _ e, upd_ne _ _ e, upd_ne _ _ e]
        exact hT i (by omega)
    · exact fun j hj => ⟨upd_rng (fun j hj => (hC j hj).1) (by omega) j hj, upd_rng (fun j hj => (hC j hj).2.1) h1 j hj, upd_rng (fun j hj => (hC j hj).2.2) h2 j hj⟩
    · exact fun j hj => ⟨upd_rng (fun j hj => (hM j hj).1) (by omega) j hj, upd_rng (fun j hj => (hM j hj).2.1) h1 j hj, upd_rng (fun j hj => (hM j hj).2.2) h2 j hj⟩
theorem ya_L {pc v : Int32} (hv : 3 ≤ v.toInt ∧ v.toInt ≤ 12) : ∀ (n : Nat) (i : Int32) (ya : Nat → Int32), f_X5_comesYards_L19 pc v n i v ya = f_X0_becomeLong_L20 pc n i v ya := by
  have z1 : (1 : Int32).toInt = 1 := rfl
  have hs := ts32 (x := v) (y := (1 : Int32)) (by omega) (by omega)
  intro n
  induction n with
  | zero => intro i ya; rfl
  | succ n ih =>
    intro i ya
    rw [f_X5_comesYards_L19, f_X0_becomeLong_L20]
    by_cases c : pc ≤ i
    · rw [if_pos c, if_pos c]
    · rw [if_neg c, if_neg c]
      by_cases c2 : v ≤ ya i.toNatClampNeg
      · have q := leT c2
        rw [if_pos c2, if_pos (ofLt (by omega)), ih]
      · have q := nleT c2
        rw [if_neg c2, if_neg (fun cc => by have := ltT cc; omega), ih]
theorem ya_rng {pc v : Int32} (hv : 3 ≤ v.toInt ∧ v.toInt ≤ 12) (hp : pc.toInt ≤ 5) : ∀ (n : Nat) (i : Int32) (ya : Nat → Int32), (pc.toInt - i.toInt).toNat < n → 0 ≤ i.toInt → (∀ j, j < 5 → 0 ≤ (ya j).toInt ∧ (ya j).toInt ≤ 11) → ∃ ya', f_X0_becomeLong_L20 pc n i v ya = (1, v, ya') ∧ ∀ j, j < 5 → 0 ≤ (ya' j).toInt ∧ (ya' j).toInt ≤ 11 := by
  have z1 : (1 : Int32).toInt = 1 := rfl
  have hs := ts32 (x := v) (y := (1 : Int32)) (by omega) (by omega)
  intro n
  induction n with
  | zero => intro i ya h; omega
  | succ n ih =>
    intro i ya hm hi0 hq
    rw [f_X0_becomeLong_L20]
    by_cases c : pc ≤ i
    · rw [if_pos c]; exact ⟨ya, rfl, hq⟩
    · rw [if_neg c]
      have q := nleT c
      have hi := inc_nle c
      have hx := hq i.toNatClampNeg (by have := clampT hi0; omega)
      refine ih (i + 1) _ (by omega) (by omega) (upd_rng hq ?_)
      split <;> omega
theorem yl_eq {yd wd pc tc bl a0 : Int32} {ya pa sa ta ki fi he : Nat → Int32} (hL : LV yd wd pc tc bl ya pa sa ta ki fi he) : ∃ r yd' ya', f_X0_becomeLong yd pc ya a0 = (r, yd', ya') ∧ f_X5_comesYards yd pc ya a0 = (r, yd', ya') ∧ LV yd' wd pc tc bl ya' pa sa ta ki fi he := by
  have hL0 := hL
  obtain ⟨hy, hw, hp, htc, hb, hq, hM⟩ := hL0
  have z3 : (3 : Int32).toInt = 3 := rfl
  have z0 : (0 : Int32).toInt = 0 := rfl
  have z12 : (12 : Int32).toInt = 12 := rfl
  unfold f_X0_becomeLong f_X5_comesYards f_X5_isIn
  rw [lt1_def]
  by_cases c1 : a0 < (3 : Int32)
  · rw [if_pos c1, if_pos c1, if_pos rfl]; exact ⟨_, _, _, rfl, rfl, hL⟩
  rw [if_neg c1, if_neg c1]
  by_cases c2 : a0 ≤ (12 : Int32)
  · have q1 := nltT c1
    have q2 := leT c2
    rw [if_pos c2, if_neg (Int32.not_lt.mpr c2), if_neg ne10, ya_L (by omega)]
    obtain ⟨ya', e1, e2⟩ := ya_rng (pc := pc) (v := a0) (by omega) hp.2 6 0 ya (by omega) (by omega) (fun j hj => (hq j hj).1)
    rw [e1]
    exact ⟨_, _, _, rfl, rfl, by omega, hw, hp, htc, hb, fun j hj => ⟨e2 j hj, (hq j hj).2⟩, hM⟩
  · rw [if_neg c2, if_pos (Int32.not_le.mp c2), if_pos rfl]; exact ⟨_, _, _, rfl, rfl, hL⟩
section AP
variable {q' b a0 a1 a2 yd wd pc tc bl tm k : Int32} {ya pa sa ta kv fv hv ki fi he le T : Nat → Int32}
/-- a statement comes to the class's lane as to the model -/
theorem ap_eq (hL : LV yd wd pc tc bl ya pa sa ta ki fi he) (hT : TK tc kv fv hv ki fi he) (hC : CK kv fv hv) (hb : le k.toNatClampNeg = b) (e0 : T ((3 : Int32) * k).toNatClampNeg = a0) (e1 : T ((3 : Int32) * k + 1).toNatClampNeg = a1) (e2 : T ((3 : Int32) * k + 2).toNatClampNeg = a2) (hr : (b = 112 ∨ b = 116) → (0 ≤ a0.toInt ∧ a0.toInt ≤ 99) ∧ (0 ≤ a1.toInt ∧ a1.toInt ≤ 9) ∧ 0 ≤ a2.toInt ∧ a2.toInt ≤ 9) : ∃ (r y1 y2 y3 y4 y5 y6 : Int32) (y7 y8 y9 y10 y11 y12 y13 : Nat → Int32) (z1 z2 z3 z4 z5 z6 : Int32) (z7 z8 z9 z10 z11 z12 z13 : Nat → Int32), apC q' b a0 a1 a2 yd wd pc tc bl tm ya pa sa ta kv fv hv = (r, q', y1, y2, y3, y4, y5, y6, y7, y8, y9, y10, y11, y12, y13) ∧ f_X5_comes yd wd pc tc bl tm ya pa sa ta ki fi he le T k = (r, z1, z2, z3, z4, z5, z6, z7, z8, z9, z10, z11, z12, z13) ∧ (¬ r = 0 → (z1 = y1 ∧ z2 = y2 ∧ z3 = y3 ∧ z4 = y4 ∧ z5 = y5 ∧ z6 = y6 ∧ z7 = y7 ∧ z8 = y8 ∧ z9 = y9 ∧ z10 = y10) ∧ LV y1 y2 y3 y4 y5 y7 y8 y9 y10 z11 z12 z13 ∧ TK y4 y11 y12 y13 z11 z12 z13 ∧ CK y11 y12 y13) := by
  have hL0 := hL
  obtain ⟨hy, hw, hp, htc, hbl, hq, hM⟩ := hL0
  unfold apC f_X5_comes
  rw [hb]
  by_cases c112 : b = 112
  · rw [if_pos c112, if_pos c112, pl_eq hp, e0, e1, e2]
    rcases ex : f_X0_addPlayer yd pc ya pa sa ta a0 a1 a2 with ⟨x1, x2, x3, x4, x5, x6⟩
    rw [lt6_def, lt6_def]
    exact ⟨_, _, _, _, _, _, _, _, _, _, _, _, _, _, _, _, _, _, _, _, _, _, _, _, _, _, _, rfl, rfl, fun _ => ⟨⟨rfl, rfl, rfl, rfl, rfl, rfl, rfl, rfl, rfl, rfl⟩, pl_rng hL (hr (Or.inl c112)).2.2 ex, hT, hC⟩⟩
  rw [if_neg c112, if_neg c112]
  by_cases c116 : b = 116
  · obtain ⟨h0, h1, h2⟩ := hr (Or.inr c116)
    obtain ⟨r, tc', kv', fv', hv', ki', fi', he', g1, g2, g3, g4, g5, g6⟩ := to_eq (p := (3 : Int32) * k) htc e0 e1 e2 h0.1 h1 h2 hT hC hM.1
    rw [if_pos c116, if_neg (by rw [c116]; decide), if_neg (by rw [c116]; decide), if_neg (by rw [c116]; decide), if_pos c116, g1, g2, lt5_def, lt5_def]
    exact ⟨_, _, _, _, _, _, _, _, _, _, _, _, _, _, _, _, _, _, _, _, _, _, _, _, _, _, _, rfl, rfl, fun _ => ⟨⟨rfl, rfl, rfl, rfl, rfl, rfl, rfl, rfl, rfl, rfl⟩, ⟨hy, hw, hp, g5, hbl, hq, g6, hM.2⟩, g3, g4⟩⟩
  rw [if_neg c116]
  by_cases c119 : b = 119
  · rw [if_pos c119, if_neg (by rw [c119]; decide), if_neg (by rw [c119]; decide), if_neg (by rw [c119]; decide), if_neg c116, if_neg (by rw [c119]; decide), if_neg (by rw [c119]; decide), if_pos c119, e0, lt1_def]
    unfold f_X0_becomeWindy f_X5_isIn
    by_cases d1 : a0 < (-3 : Int32)
    · rw [if_pos d1, if_pos d1, lt2_def]
      exact ⟨_, _, _, _, _, _, _, _, _, _, _, _, _, _, _, _, _, _, _, _, _, _, _, _, _, _, _, rfl, rfl, fun h => absurd rfl h⟩
    rw [if_neg d1, if_neg d1]
    by_cases d2 : a0 ≤ (3 : Int32)
    · rw [if_pos d2, if_neg (Int32.not_lt.mpr d2), lt2_def]
      have z3 : (3 : Int32).toInt = 3 := rfl
      have zm := m3
      have q1 := nltT d1
      have q2 := leT d2
      exact ⟨_, _, _, _, _, _, _, _, _, _, _, _, _, _, _, _, _, _, _, _, _, _, _, _, _, _, _, rfl, rfl, fun _ => ⟨⟨rfl, rfl, rfl, rfl, rfl, rfl, rfl, rfl, rfl, rfl⟩, ⟨hy, by omega, hp, htc, hbl, hq, hM⟩, hT, hC⟩⟩
    · rw [if_neg d2, if_pos (Int32.not_le.mp d2), lt2_def]
      exact ⟨_, _, _, _, _, _, _, _, _, _, _, _, _, _, _, _, _, _, _, _, _, _, _, _, _, _, _, rfl, rfl, fun h => absurd rfl h⟩
  rw [if_neg c119]
  by_cases c121 : b = 121
  · obtain ⟨r, yd', ya', g1, g2, g3⟩ := yl_eq (a0 := a0) hL
    rw [if_pos c121, if_neg (by rw [c121]; decide), if_neg (by rw [c121]; decide), if_neg (by rw [c121]; decide), if_neg c116, if_neg (by rw [c121]; decide), if_neg (by rw [c121]; decide), if_neg c119, if_neg (by rw [c121]; decide), if_pos c121, e0, g1, g2, lt3_def, lt3_def]
    exact ⟨_, _, _, _, _, _, _, _, _, _, _, _, _, _, _, _, _, _, _, _, _, _, _, _, _, _, _, rfl, rfl, fun _ => ⟨⟨rfl, rfl, rfl, rfl, rfl, rfl, rfl, rfl, rfl, rfl⟩, g3, hT, hC⟩⟩
  rw [if_neg c121]
  have hD : ∀ X : Int32 × (Int32) × (Int32) × (Int32) × (Int32) × (Int32) × (Int32) × (Nat → Int32) × (Nat → Int32) × (Nat → Int32) × (Nat → Int32) × (Nat → Int32) × (Nat → Int32) × (Nat → Int32), X = f_X5_comes_L108 yd wd pc tc ya pa sa ta ki fi he T ((3 : Int32) * k) → ∃ (r y1 y2 y3 y4 y5 y6 : Int32) (y7 y8 y9 y10 y11 y12 y13 : Nat → Int32) (z1 z2 z3 z4 z5 z6 : Int32) (z7 z8 z9 z10 z11 z12 z13 : Nat → Int32), lt3 (f_X0_startWith pc bl tm a0) (fun r p1 p2 => (r, q', yd, wd, pc, tc, p1, p2, ya, pa, sa, ta, kv, fv, hv)) = (r, q', y1, y2, y3, y4, y5, y6, y7, y8, y9, y10, y11, y12, y13) ∧ X = (r, z1, z2, z3, z4, z5, z6, z7, z8, z9, z10, z11, z12, z13) ∧ (¬ r = 0 → (z1 = y1 ∧ z2 = y2 ∧ z3 = y3 ∧ z4 = y4 ∧ z5 = y5 ∧ z6 = y6 ∧ z7 = y7 ∧ z8 = y8 ∧ z9 = y9 ∧ z10 = y10) ∧ LV y1 y2 y3 y4 y5 y7 y8 y9 y10 z11 z12 z13 ∧ TK y4 y11 y12 y13 z11 z12 z13 ∧ CK y11 y12 y13) := by
    intro X hX
    rw [hX]
    unfold f_X0_startWith f_X5_comes_L108 f_X0_handTo
    rw [lt1_def, lt1_def, e0, lt2_def]
    by_cases d : f_X0_hasPlayer pc a0 = 0
    · rw [if_pos d, lt3_def, show f_X5_isPlayer pc a0 = 0 from d]
      exact ⟨_, _, _, _, _, _, _, _, _, _, _, _, _, _, _, _, _, _, _, _, _, _, _, _, _, _, _, rfl, rfl, fun h => absurd rfl h⟩
    · have hpl := hasPlayer_t rfl d
      have d1 : f_X5_isPlayer pc a0 = 1 := by
        have z : f_X0_hasPlayer pc a0 = 0 ∨ f_X0_hasPlayer pc a0 = 1 := by
          unfold f_X0_hasPlayer
          (repeat' split) <;> first | exact Or.inl rfl | exact Or.inr rfl
        exact z.resolve_left d
      rw [if_neg d, lt3_def, d1]
      exact ⟨_, _, _, _, _, _, _, _, _, _, _, _, _, _, _, _, _, _, _, _, _, _, _, _, _, _, _, rfl, rfl, fun _ => ⟨⟨rfl, rfl, rfl, rfl, rfl, rfl, rfl, rfl, rfl, rfl⟩, ⟨hy, hw, hp, htc, Or.inr hpl, hq, hM⟩, hT, hC⟩⟩
  refine hD _ ?_
  rw [if_neg c116, if_neg c119, if_neg c121]
  (repeat' split) <;> rfl
end AP

