/-- the rows s hold, from b on, this state -/
def PkAt (s : Nat → Int32) (b : Nat) (m_yards m_wind m_players m_touches m_holder m_kept : Int32) (m_place m_pace m_skillOf m_tired m_kind m_figure m_height : Nat → Int32) : Prop := (∀ j : Nat, j < 5 → s (b + 0 + j) = m_place j) ∧ (∀ j : Nat, j < 5 → s (b + 5 + j) = m_pace j) ∧ (∀ j : Nat, j < 5 → s (b + 10 + j) = m_skillOf j) ∧ (∀ j : Nat, j < 5 → s (b + 15 + j) = m_tired j) ∧ (∀ j : Nat, j < 6 → s (b + 20 + j) = m_kind j) ∧ (∀ j : Nat, j < 6 → s (b + 26 + j) = m_figure j) ∧ (∀ j : Nat, j < 6 → s (b + 32 + j) = m_height j) ∧ s (b + 38) = m_yards ∧ s (b + 39) = m_wind ∧ s (b + 40) = m_players ∧ s (b + 41) = m_touches ∧ s (b + 42) = m_holder ∧ s (b + 43) = m_kept
set_option maxHeartbeats 4000000 in
theorem kp_all (m_yards m_wind m_players m_touches m_holder m_kept : Int32) (m_place m_pace m_skillOf m_tired m_kind m_figure m_height m_stored : Nat → Int32) (v1 : Int32) (hv : 0 ≤ v1.toInt ∧ v1.toInt ≤ 1) : ∃ s', f_X5_passesAll m_yards m_wind m_players m_touches m_holder m_kept m_place m_pace m_skillOf m_tired m_kind m_figure m_height m_stored v1 1 = (m_yards, m_wind, m_players, m_touches, m_holder, m_kept, 1, (45 : Int32) * v1 + 44, m_place, m_pace, m_skillOf, m_tired, m_kind, m_figure, m_height, s') ∧ PkAt s' (45 * v1.toInt.toNat) m_yards m_wind m_players m_touches m_holder m_kept m_place m_pace m_skillOf m_tired m_kind m_figure m_height ∧ ∀ j : Nat, (j < 45 * v1.toInt.toNat ∨ 45 * v1.toInt.toNat + 44 ≤ j) → s' j = m_stored j := by
  have h45 := mul45 (x := v1) (by omega)
  have z44 : (44 : Int32).toInt = 44 := rfl
  obtain ⟨c1, s1, e1, h1, p1, q1⟩ := kp_place ((45 : Int32) * v1) m_place m_stored (by omega)
  obtain ⟨c2, s2, e2, h2, p2, q2⟩ := kp_pace c1 m_pace s1 (by omega)
  obtain ⟨c3, s3, e3, h3, p3, q3⟩ := kp_skillOf c2 m_skillOf s2 (by omega)
  obtain ⟨c4, s4, e4, h4, p4, q4⟩ := kp_tired c3 m_tired s3 (by omega)
  obtain ⟨c5, s5, e5, h5, p5, q5⟩ := kp_kind c4 m_kind s4 (by omega)
  obtain ⟨c6, s6, e6, h6, p6, q6⟩ := kp_figure c5 m_figure s5 (by omega)
  obtain ⟨c7, s7, e7, h7, p7, q7⟩ := kp_height c6 m_height s6 (by omega)
  obtain ⟨c8, s8, e8, h8, p8, q8⟩ := kp_one c7 m_yards s7 (by omega)
  obtain ⟨c9, s9, e9, h9, p9, q9⟩ := kp_one c8 m_wind s8 (by omega)
  obtain ⟨c10, s10, e10, h10, p10, q10⟩ := kp_one c9 m_players s9 (by omega)
  obtain ⟨c11, s11, e11, h11, p11, q11⟩ := kp_one c10 m_touches s10 (by omega)
  obtain ⟨c12, s12, e12, h12, p12, q12⟩ := kp_one c11 m_holder s11 (by omega)
  obtain ⟨c13, s13, e13, h13, p13, q13⟩ := kp_one c12 m_kept s12 (by omega)
  have hc : c13 = (45 : Int32) * v1 + 44 := Int32.toInt_inj.mp (by rw [ta32 (by omega) (by omega), z44]; omega)
  refine ⟨s13, ?_, ⟨?_, ?_, ?_, ?_, ?_, ?_, ?_, ?_, ?_, ?_, ?_, ?_, ?_⟩, fun j hj => ?_⟩
  · unfold f_X5_passesAll; rw [e1, lt3_def, e2, lt3_def, e3, lt3_def, e4, lt3_def, e5, lt3_def, e6, lt3_def, e7, lt3_def, e8, lt3_def, e9, lt3_def, e10, lt3_def, e11, lt3_def, e12, lt3_def, e13, lt3_def, hc]
  · intro j hj
    rw [show 45 * v1.toInt.toNat + 0 + j = ((45 : Int32) * v1).toInt.toNat + j by omega, q13 _ (by omega), q12 _ (by omega), q11 _ (by omega), q10 _ (by omega), q9 _ (by omega), q8 _ (by omega), q7 _ (by omega), q6 _ (by omega), q5 _ (by omega), q4 _ (by omega), q3 _ (by omega), q2 _ (by omega), p1 j hj]
  · intro j hj
    rw [show 45 * v1.toInt.toNat + 5 + j = c1.toInt.toNat + j by omega, q13 _ (by omega), q12 _ (by omega), q11 _ (by omega), q10 _ (by omega), q9 _ (by omega), q8 _ (by omega), q7 _ (by omega), q6 _ (by omega), q5 _ (by omega), q4 _ (by omega), q3 _ (by omega), p2 j hj]
  · intro j hj
    rw [show 45 * v1.toInt.toNat + 10 + j = c2.toInt.toNat + j by omega, q13 _ (by omega), q12 _ (by omega), q11 _ (by omega), q10 _ (by omega), q9 _ (by omega), q8 _ (by omega), q7 _ (by omega), q6 _ (by omega), q5 _ (by omega), q4 _ (by omega), p3 j hj]
  · intro j hj
    rw [show 45 * v1.toInt.toNat + 15 + j = c3.toInt.toNat + j by omega, q13 _ (by omega), q12 _ (by omega), q11 _ (by omega), q10 _ (by omega), q9 _ (by omega), q8 _ (by omega), q7 _ (by omega), q6 _ (by omega), q5 _ (by omega), p4 j hj]
  · intro j hj
    rw [show 45 * v1.toInt.toNat + 20 + j = c4.toInt.toNat + j by omega, q13 _ (by omega), q12 _ (by omega), q11 _ (by omega), q10 _ (by omega), q9 _ (by omega), q8 _ (by omega), q7 _ (by omega), q6 _ (by omega), p5 j hj]
  · intro j hj
    rw [show 45 * v1.toInt.toNat + 26 + j = c5.toInt.toNat + j by omega, q13 _ (by omega), q12 _ (by omega), q11 _ (by omega), q10 _ (by omega), q9 _ (by omega), q8 _ (by omega), q7 _ (by omega), p6 j hj]
  · intro j hj
    rw [show 45 * v1.toInt.toNat + 32 + j = c6.toInt.toNat + j by omega, q13 _ (by omega), q12 _ (by omega), q11 _ (by omega), q10 _ (by omega), q9 _ (by omega), q8 _ (by omega), p7 j hj]
  · rw [show 45 * v1.toInt.toNat + 38 = c7.toInt.toNat by omega, q13 _ (by omega), q12 _ (by omega), q11 _ (by omega), q10 _ (by omega), q9 _ (by omega), p8]
  · rw [show 45 * v1.toInt.toNat + 39 = c8.toInt.toNat by omega, q13 _ (by omega), q12 _ (by omega), q11 _ (by omega), q10 _ (by omega), p9]
  · rw [show 45 * v1.toInt.toNat + 40 = c9.toInt.toNat by omega, q13 _ (by omega), q12 _ (by omega), q11 _ (by omega), p10]
  · rw [show 45 * v1.toInt.toNat + 41 = c10.toInt.toNat by omega, q13 _ (by omega), q12 _ (by omega), p11]
  · rw [show 45 * v1.toInt.toNat + 42 = c11.toInt.toNat by omega, q13 _ (by omega), p12]
  · rw [show 45 * v1.toInt.toNat + 43 = c12.toInt.toNat by omega, p13]
  · rw [q13 _ (by omega), q12 _ (by omega), q11 _ (by omega), q10 _ (by omega), q9 _ (by omega), q8 _ (by omega), q7 _ (by omega), q6 _ (by omega), q5 _ (by omega), q4 _ (by omega), q3 _ (by omega), q2 _ (by omega), q1 _ (by omega)]
set_option maxHeartbeats 4000000 in
theorem bk_all (m_yards m_wind m_players m_touches m_holder m_kept : Int32) (m_place m_pace m_skillOf m_tired m_kind m_figure m_height m_stored : Nat → Int32) (v1 : Int32) (g_m_yards g_m_wind g_m_players g_m_touches g_m_holder g_m_kept : Int32) (g_m_place g_m_pace g_m_skillOf g_m_tired g_m_kind g_m_figure g_m_height : Nat → Int32) (hv : 0 ≤ v1.toInt ∧ v1.toInt ≤ 1) (hp : PkAt m_stored (45 * v1.toInt.toNat) g_m_yards g_m_wind g_m_players g_m_touches g_m_holder g_m_kept g_m_place g_m_pace g_m_skillOf g_m_tired g_m_kind g_m_figure g_m_height) : ∃ a1 a2 a3 a4 a5 a6 a7, f_X5_passesAll m_yards m_wind m_players m_touches m_holder m_kept m_place m_pace m_skillOf m_tired m_kind m_figure m_height m_stored v1 0 = (g_m_yards, g_m_wind, g_m_players, g_m_touches, g_m_holder, g_m_kept, 0, (45 : Int32) * v1 + 44, a1, a2, a3, a4, a5, a6, a7, m_stored) ∧ (∀ j : Nat, j < 5 → a1 j = g_m_place j) ∧ (∀ j : Nat, j < 5 → a2 j = g_m_pace j) ∧ (∀ j : Nat, j < 5 → a3 j = g_m_skillOf j) ∧ (∀ j : Nat, j < 5 → a4 j = g_m_tired j) ∧ (∀ j : Nat, j < 6 → a5 j = g_m_kind j) ∧ (∀ j : Nat, j < 6 → a6 j = g_m_figure j) ∧ (∀ j : Nat, j < 6 → a7 j = g_m_height j) := by
  obtain ⟨w1, w2, w3, w4, w5, w6, w7, w8, w9, w10, w11, w12, w13⟩ := hp
  have h45 := mul45 (x := v1) (by omega)
  have z44 : (44 : Int32).toInt = 44 := rfl
  obtain ⟨c1, a1, e1, h1, p1⟩ := bk_place ((45 : Int32) * v1) m_place m_stored (by omega)
  obtain ⟨c2, a2, e2, h2, p2⟩ := bk_pace c1 m_pace m_stored (by omega)
  obtain ⟨c3, a3, e3, h3, p3⟩ := bk_skillOf c2 m_skillOf m_stored (by omega)
  obtain ⟨c4, a4, e4, h4, p4⟩ := bk_tired c3 m_tired m_stored (by omega)
  obtain ⟨c5, a5, e5, h5, p5⟩ := bk_kind c4 m_kind m_stored (by omega)
  obtain ⟨c6, a6, e6, h6, p6⟩ := bk_figure c5 m_figure m_stored (by omega)
  obtain ⟨c7, a7, e7, h7, p7⟩ := bk_height c6 m_height m_stored (by omega)
  obtain ⟨c8, e8, h8⟩ := bk_one c7 m_yards m_stored (by omega)
  obtain ⟨c9, e9, h9⟩ := bk_one c8 m_wind m_stored (by omega)
  obtain ⟨c10, e10, h10⟩ := bk_one c9 m_players m_stored (by omega)
  obtain ⟨c11, e11, h11⟩ := bk_one c10 m_touches m_stored (by omega)
  obtain ⟨c12, e12, h12⟩ := bk_one c11 m_holder m_stored (by omega)
  obtain ⟨c13, e13, h13⟩ := bk_one c12 m_kept m_stored (by omega)
  have hc : c13 = (45 : Int32) * v1 + 44 := Int32.toInt_inj.mp (by rw [ta32 (by omega) (by omega), z44]; omega)
  rw [show c7.toInt.toNat = 45 * v1.toInt.toNat + 38 by omega, w8] at e8
  rw [show c8.toInt.toNat = 45 * v1.toInt.toNat + 39 by omega, w9] at e9
  rw [show c9.toInt.toNat = 45 * v1.toInt.toNat + 40 by omega, w10] at e10
  rw [show c10.toInt.toNat = 45 * v1.toInt.toNat + 41 by omega, w11] at e11
  rw [show c11.toInt.toNat = 45 * v1.toInt.toNat + 42 by omega, w12] at e12
  rw [show c12.toInt.toNat = 45 * v1.toInt.toNat + 43 by omega, w13] at e13
  refine ⟨a1, a2, a3, a4, a5, a6, a7, ?_, ?_, ?_, ?_, ?_, ?_, ?_, ?_⟩
  · unfold f_X5_passesAll; rw [e1, lt3_def, e2, lt3_def, e3, lt3_def, e4, lt3_def, e5, lt3_def, e6, lt3_def, e7, lt3_def, e8, lt3_def, e9, lt3_def, e10, lt3_def, e11, lt3_def, e12, lt3_def, e13, lt3_def, hc]
  · intro j hj; rw [p1 j hj, show ((45 : Int32) * v1).toInt.toNat + j = 45 * v1.toInt.toNat + 0 + j by omega, w1 j hj]
  · intro j hj; rw [p2 j hj, show c1.toInt.toNat + j = 45 * v1.toInt.toNat + 5 + j by omega, w2 j hj]
  · intro j hj; rw [p3 j hj, show c2.toInt.toNat + j = 45 * v1.toInt.toNat + 10 + j by omega, w3 j hj]
  · intro j hj; rw [p4 j hj, show c3.toInt.toNat + j = 45 * v1.toInt.toNat + 15 + j by omega, w4 j hj]
  · intro j hj; rw [p5 j hj, show c4.toInt.toNat + j = 45 * v1.toInt.toNat + 20 + j by omega, w5 j hj]
  · intro j hj; rw [p6 j hj, show c5.toInt.toNat + j = 45 * v1.toInt.toNat + 26 + j by omega, w6 j hj]
  · intro j hj; rw [p7 j hj, show c6.toInt.toNat + j = 45 * v1.toInt.toNat + 32 + j by omega, w7 j hj]
def stK (m_yards m_wind m_players m_touches m_holder m_kept : Int32) (m_place m_pace m_skillOf m_tired m_kind m_figure m_height m_stored : Nat → Int32) (v1 : Int32) : Nat → Int32 := (f_X5_passesAll m_yards m_wind m_players m_touches m_holder m_kept m_place m_pace m_skillOf m_tired m_kind m_figure m_height m_stored v1 1).2.2.2.2.2.2.2.2.2.2.2.2.2.2.2
theorem stK_at (m_yards m_wind m_players m_touches m_holder m_kept : Int32) (m_place m_pace m_skillOf m_tired m_kind m_figure m_height m_stored : Nat → Int32) (v1 : Int32) (hv : 0 ≤ v1.toInt ∧ v1.toInt ≤ 1) : PkAt (stK m_yards m_wind m_players m_touches m_holder m_kept m_place m_pace m_skillOf m_tired m_kind m_figure m_height m_stored v1) (45 * v1.toInt.toNat) m_yards m_wind m_players m_touches m_holder m_kept m_place m_pace m_skillOf m_tired m_kind m_figure m_height ∧ ∀ j : Nat, (j < 45 * v1.toInt.toNat ∨ 45 * v1.toInt.toNat + 44 ≤ j) → stK m_yards m_wind m_players m_touches m_holder m_kept m_place m_pace m_skillOf m_tired m_kind m_figure m_height m_stored v1 j = m_stored j := by
  obtain ⟨s, e, h⟩ := kp_all m_yards m_wind m_players m_touches m_holder m_kept m_place m_pace m_skillOf m_tired m_kind m_figure m_height m_stored v1 hv
  unfold stK
  rw [e]
  exact h
def f_X5_passesAll_k (m_yards m_wind m_players m_touches m_holder m_kept : Int32) (m_place m_pace m_skillOf m_tired m_kind m_figure m_height m_stored : Nat → Int32) (v1 : Int32) : Int32 × Int32 × (Nat → Int32) := (1, (45 : Int32) * v1 + 44, stK m_yards m_wind m_players m_touches m_holder m_kept m_place m_pace m_skillOf m_tired m_kind m_figure m_height m_stored v1)
def f_X5_passesAll_r (v1 : Int32) (g_m_yards g_m_wind g_m_players g_m_touches g_m_holder g_m_kept : Int32) (g_m_place g_m_pace g_m_skillOf g_m_tired g_m_kind g_m_figure g_m_height : Nat → Int32) : Int32 × Int32 × Int32 × Int32 × Int32 × Int32 × Int32 × Int32 × (Nat → Int32) × (Nat → Int32) × (Nat → Int32) × (Nat → Int32) × (Nat → Int32) × (Nat → Int32) × (Nat → Int32) := (g_m_yards, g_m_wind, g_m_players, g_m_touches, g_m_holder, g_m_kept, 0, (45 : Int32) * v1 + 44, g_m_place, g_m_pace, g_m_skillOf, g_m_tired, g_m_kind, g_m_figure, g_m_height)
set_option maxHeartbeats 4000000 in
theorem c_X5_passesAll_k (l : Launch) (dC : Nat → ClassId) (dI : Nat → Nat → Nat) (cI cT : ClassId) (zL : Nat) (z_refused : Nat) (z_place : Nat) (z_pace : Nat) (z_skillOf : Nat) (z_tired : Nat) (z_kind : Nat) (z_figure : Nat) (z_height : Nat) (z_tape : Nat) (z_letter : Nat) (z_letterAt : Nat) (z_told : Nat) (z_stored : Nat) (z_row : Nat) (m_yards : Int32) (m_wind : Int32) (m_players : Int32) (m_touches : Int32) (m_holder : Int32) (m_kept : Int32) (m_taped : Int32) (m_at : Int32) (m_statements : Int32) (m_hasImage : Int32) (m_isKeeping : Int32) (m_cursor : Int32) (m_onUp : Int64) (m_onDown : Int64) (m_longMany : Int32) (m_longLeast : Int32) (m_rowMany : Int32) (m_lots : Int32) (m_refused : Nat → Int32) (m_place : Nat → Int32) (m_pace : Nat → Int32) (m_skillOf : Nat → Int32) (m_tired : Nat → Int32) (m_kind : Nat → Int32) (m_figure : Nat → Int32) (m_height : Nat → Int32) (m_tape : Nat → Int32) (m_letter : Nat → Int32) (m_letterAt : Nat → Int32) (m_told : Nat → Int32) (m_stored : Nat → Int32) (m_row : Nat → Int32) (pl : va_W) (v1 v2 : Int32) (hwh : 0 ≤ v1.toInt ∧ v1.toInt ≤ 1) (h2 : v2 = 1) : CtV l (dC, dI) cI cT yX5_passesAll wd_X5_passesAll rm_X5_passesAll [.ref zL, .int v1, .int v2] (W_model cI cT zL z_refused z_place z_pace z_skillOf z_tired z_kind z_figure z_height z_tape z_letter z_letterAt z_told z_stored z_row m_yards m_wind m_players m_touches m_holder m_kept m_taped m_at m_statements m_hasImage m_isKeeping m_cursor m_onUp m_onDown m_longMany m_longLeast m_rowMany m_lots m_refused m_place m_pace m_skillOf m_tired m_kind m_figure m_height m_tape m_letter m_letterAt m_told m_stored m_row ++ pl) (fun (u : (Int32) × (Int32) × (Nat → Int32)) => f_X5_passesAll_k m_yards m_wind m_players m_touches m_holder m_kept m_place m_pace m_skillOf m_tired m_kind m_figure m_height m_stored v1 = u) (fun u => W_model cI cT zL z_refused z_place z_pace z_skillOf z_tired z_kind z_figure z_height z_tape z_letter z_letterAt z_told z_stored z_row m_yards m_wind m_players m_touches m_holder m_kept m_taped m_at m_statements m_hasImage u.1 u.2.1 m_onUp m_onDown m_longMany m_longLeast m_rowMany m_lots m_refused m_place m_pace m_skillOf m_tired m_kind m_figure m_height m_tape m_letter m_letterAt m_told u.2.2 m_row ++ pl) 0 0 := by
  subst h2
  refine (c_X5_passesAll l dC dI cI cT zL z_refused z_place z_pace z_skillOf z_tired z_kind z_figure z_height z_tape z_letter z_letterAt z_told z_stored z_row m_yards m_wind m_players m_touches m_holder m_kept m_taped m_at m_statements m_hasImage m_isKeeping m_cursor m_onUp m_onDown m_longMany m_longLeast m_rowMany m_lots m_refused m_place m_pace m_skillOf m_tired m_kind m_figure m_height m_tape m_letter m_letterAt m_told m_stored m_row pl v1 1 hwh (Or.inr rfl)).mono (fun u hu => ?_)
  obtain ⟨s', e, -⟩ := kp_all m_yards m_wind m_players m_touches m_holder m_kept m_place m_pace m_skillOf m_tired m_kind m_figure m_height m_stored v1 hwh
  refine ⟨(1, (45 : Int32) * v1 + 44, stK m_yards m_wind m_players m_touches m_holder m_kept m_place m_pace m_skillOf m_tired m_kind m_figure m_height m_stored v1), rfl, ?_⟩
  have hs : stK m_yards m_wind m_players m_touches m_holder m_kept m_place m_pace m_skillOf m_tired m_kind m_figure m_height m_stored v1 = s' := by unfold stK; rw [e]
  rw [hs]
  subst hu
  rw [e]
  exact ⟨fun _ h => h, fun _ h => h⟩
set_option maxHeartbeats 4000000 in
theorem c_X5_passesAll_r (l : Launch) (dC : Nat → ClassId) (dI : Nat → Nat → Nat) (cI cT : ClassId) (zL : Nat) (z_refused : Nat) (z_place : Nat) (z_pace : Nat) (z_skillOf : Nat) (z_tired : Nat) (z_kind : Nat) (z_figure : Nat) (z_height : Nat) (z_tape : Nat) (z_letter : Nat) (z_letterAt : Nat) (z_told : Nat) (z_stored : Nat) (z_row : Nat) (m_yards : Int32) (m_wind : Int32) (m_players : Int32) (m_touches : Int32) (m_holder : Int32) (m_kept : Int32) (m_taped : Int32) (m_at : Int32) (m_statements : Int32) (m_hasImage : Int32) (m_isKeeping : Int32) (m_cursor : Int32) (m_onUp : Int64) (m_onDown : Int64) (m_longMany : Int32) (m_longLeast : Int32) (m_rowMany : Int32) (m_lots : Int32) (m_refused : Nat → Int32) (m_place : Nat → Int32) (m_pace : Nat → Int32) (m_skillOf : Nat → Int32) (m_tired : Nat → Int32) (m_kind : Nat → Int32) (m_figure : Nat → Int32) (m_height : Nat → Int32) (m_tape : Nat → Int32) (m_letter : Nat → Int32) (m_letterAt : Nat → Int32) (m_told : Nat → Int32) (m_stored : Nat → Int32) (m_row : Nat → Int32) (pl : va_W) (v1 v2 : Int32) (g_m_yards g_m_wind g_m_players g_m_touches g_m_holder g_m_kept : Int32) (g_m_place g_m_pace g_m_skillOf g_m_tired g_m_kind g_m_figure g_m_height : Nat → Int32) (hwh : 0 ≤ v1.toInt ∧ v1.toInt ≤ 1) (h2 : v2 = 0) (hpk : PkAt m_stored (45 * v1.toInt.toNat) g_m_yards g_m_wind g_m_players g_m_touches g_m_holder g_m_kept g_m_place g_m_pace g_m_skillOf g_m_tired g_m_kind g_m_figure g_m_height) : CtV l (dC, dI) cI cT yX5_passesAll wd_X5_passesAll rm_X5_passesAll [.ref zL, .int v1, .int v2] (W_model cI cT zL z_refused z_place z_pace z_skillOf z_tired z_kind z_figure z_height z_tape z_letter z_letterAt z_told z_stored z_row m_yards m_wind m_players m_touches m_holder m_kept m_taped m_at m_statements m_hasImage m_isKeeping m_cursor m_onUp m_onDown m_longMany m_longLeast m_rowMany m_lots m_refused m_place m_pace m_skillOf m_tired m_kind m_figure m_height m_tape m_letter m_letterAt m_told m_stored m_row ++ pl) (fun (u : (Int32) × (Int32) × (Int32) × (Int32) × (Int32) × (Int32) × (Int32) × (Int32) × (Nat → Int32) × (Nat → Int32) × (Nat → Int32) × (Nat → Int32) × (Nat → Int32) × (Nat → Int32) × (Nat → Int32)) => f_X5_passesAll_r v1 g_m_yards g_m_wind g_m_players g_m_touches g_m_holder g_m_kept g_m_place g_m_pace g_m_skillOf g_m_tired g_m_kind g_m_figure g_m_height = u) (fun u => W_model cI cT zL z_refused z_place z_pace z_skillOf z_tired z_kind z_figure z_height z_tape z_letter z_letterAt z_told z_stored z_row u.1 u.2.1 u.2.2.1 u.2.2.2.1 u.2.2.2.2.1 u.2.2.2.2.2.1 m_taped m_at m_statements m_hasImage u.2.2.2.2.2.2.1 u.2.2.2.2.2.2.2.1 m_onUp m_onDown m_longMany m_longLeast m_rowMany m_lots m_refused u.2.2.2.2.2.2.2.2.1 u.2.2.2.2.2.2.2.2.2.1 u.2.2.2.2.2.2.2.2.2.2.1 u.2.2.2.2.2.2.2.2.2.2.2.1 u.2.2.2.2.2.2.2.2.2.2.2.2.1 u.2.2.2.2.2.2.2.2.2.2.2.2.2.1 u.2.2.2.2.2.2.2.2.2.2.2.2.2.2 m_tape m_letter m_letterAt m_told m_stored m_row ++ pl) 0 0 := by
  subst h2
  refine (c_X5_passesAll l dC dI cI cT zL z_refused z_place z_pace z_skillOf z_tired z_kind z_figure z_height z_tape z_letter z_letterAt z_told z_stored z_row m_yards m_wind m_players m_touches m_holder m_kept m_taped m_at m_statements m_hasImage m_isKeeping m_cursor m_onUp m_onDown m_longMany m_longLeast m_rowMany m_lots m_refused m_place m_pace m_skillOf m_tired m_kind m_figure m_height m_tape m_letter m_letterAt m_told m_stored m_row pl v1 0 hwh (Or.inl rfl)).mono (fun u hu => ?_)
  obtain ⟨a1, a2, a3, a4, a5, a6, a7, e, p1, p2, p3, p4, p5, p6, p7⟩ := bk_all m_yards m_wind m_players m_touches m_holder m_kept m_place m_pace m_skillOf m_tired m_kind m_figure m_height m_stored v1 g_m_yards g_m_wind g_m_players g_m_touches g_m_holder g_m_kept g_m_place g_m_pace g_m_skillOf g_m_tired g_m_kind g_m_figure g_m_height hwh hpk
  refine ⟨f_X5_passesAll_r v1 g_m_yards g_m_wind g_m_players g_m_touches g_m_holder g_m_kept g_m_place g_m_pace g_m_skillOf g_m_tired g_m_kind g_m_figure g_m_height, rfl, ?_⟩
  subst hu
  rw [e]
  refine ⟨fun _ h => (va_P.cell (va_P.cell (va_P.cell (va_P.cell (va_P.cell (va_P.cell (va_P.cell h 2 rfl p1) 3 rfl p2) 4 rfl p3) 5 rfl p4) 6 rfl p5) 7 rfl p6) 8 rfl p7), fun _ h => ?_⟩
  exact (va_D.set (p := 8) (va_D.set (p := 7) (va_D.set (p := 6) (va_D.set (p := 5) (va_D.set (p := 4) (va_D.set (p := 3) (va_D.set (p := 2) h rfl) rfl) rfl) rfl) rfl) rfl) rfl)

