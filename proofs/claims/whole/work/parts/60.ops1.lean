theorem no1 (rf : Nat → Int32) : f_X4_refuse rf (-1 : Int32) = f_X5_no rf (-1 : Int32) := by unfold f_X4_refuse f_X5_no; rw [if_neg (by decide), if_neg (by decide)]
theorem no2 (rf : Nat → Int32) : f_X4_refuse rf (-2 : Int32) = f_X5_no rf (-2 : Int32) := by unfold f_X4_refuse f_X5_no; rw [if_neg (by decide), if_neg (by decide)]
theorem no3 (rf : Nat → Int32) : f_X4_refuse rf (-3 : Int32) = f_X5_no rf (-3 : Int32) := by unfold f_X4_refuse f_X5_no; rw [if_neg (by decide), if_neg (by decide)]
theorem no4 (rf : Nat → Int32) : f_X4_refuse rf (-4 : Int32) = f_X5_no rf (-4 : Int32) := by unfold f_X4_refuse f_X5_no; rw [if_neg (by decide), if_neg (by decide)]
theorem no6 (rf : Nat → Int32) : f_X4_refuse rf (-6 : Int32) = f_X5_no rf (-6 : Int32) := by unfold f_X4_refuse f_X5_no; rw [if_neg (by decide), if_neg (by decide)]
theorem lo1 (rf : Nat → Int32) : f_X4_refuseLong rf (-1 : Int32) = f_X5_lowest rf (-1 : Int32) := by unfold f_X4_refuseLong; rw [no1]; rfl
theorem lo2 (rf : Nat → Int32) : f_X4_refuseLong rf (-2 : Int32) = f_X5_lowest rf (-2 : Int32) := by unfold f_X4_refuseLong; rw [no2]; rfl
theorem lo4 (rf : Nat → Int32) : f_X4_refuseLong rf (-4 : Int32) = f_X5_lowest rf (-4 : Int32) := by unfold f_X4_refuseLong; rw [no4]; rfl
theorem lo6 (rf : Nat → Int32) : f_X4_refuseLong rf (-6 : Int32) = f_X5_lowest rf (-6 : Int32) := by unfold f_X4_refuseLong; rw [no6]; rfl
theorem bnd_lo {v a b : Int32} (h : ¬ a ≤ v) : f_X5_bound v a b = -4 := by unfold f_X5_bound; rw [if_neg h]
theorem bnd_hi {v a b : Int32} (h : a ≤ v) (h2 : ¬ v ≤ b) : f_X5_bound v a b = -6 := by unfold f_X5_bound; rw [if_pos h, if_neg h2]
theorem bnd_ok {v a b : Int32} (h : a ≤ v) (h2 : v ≤ b) : f_X5_bound v a b = 0 := by unfold f_X5_bound; rw [if_pos h, if_pos h2]
theorem ne6 : ¬ (-6 : Int32) = 0 := by decide
theorem ne4 : ¬ (-4 : Int32) = 0 := by decide
theorem leT {a b : Int32} (h : a ≤ b) : a.toInt ≤ b.toInt := Int32.le_iff_toInt_le.mp h
theorem nleT {a b : Int32} (h : ¬ a ≤ b) : b.toInt < a.toInt := Int.not_le.mp (mt Int32.le_iff_toInt_le.mpr h)
theorem ltT {a b : Int32} (h : a < b) : a.toInt < b.toInt := Int32.lt_iff_toInt_lt.mp h
theorem nltT {a b : Int32} (h : ¬ a < b) : b.toInt ≤ a.toInt := Int.not_lt.mp (mt Int32.lt_iff_toInt_lt.mpr h)
theorem ofLe {a b : Int32} (h : a.toInt ≤ b.toInt) : a ≤ b := Int32.le_iff_toInt_le.mpr h
theorem ofLt {a b : Int32} (h : a.toInt < b.toInt) : a < b := Int32.lt_iff_toInt_lt.mpr h
theorem ofEq {a b : Int32} (h : a.toInt = b.toInt) : a = b := Int32.toInt_inj.mp h
theorem eq_feed {rf ls rf' ls' : Nat → Int32} {lz v r lz' : Int32} (h : 0 ≤ lz.toInt ∧ lz.toInt ≤ 80) (e4 : f_X4_feed rf lz ls v = (r, rf', lz', ls')) : f_X5_feed lz rf ls v = (r, lz', rf', ls') ∧ 0 ≤ lz'.toInt ∧ lz'.toInt ≤ 80 := by
  have z80 : (80 : Int32).toInt = 80 := rfl
  have z0 : (0 : Int32).toInt = 0 := rfl
  unfold f_X4_feed at e4
  unfold f_X5_feed
  simp only [lt1, lt2] at e4 ⊢
  by_cases c1 : (0 : Int32) ≤ v
  · rw [if_pos c1] at e4
    by_cases c2 : (255 : Int32) < v
    · rw [if_pos c2, no6] at e4
      rw [bnd_hi c1 (Int32.not_le.mpr c2), if_neg ne6]
      cases e4
      exact ⟨rfl, h⟩
    · rw [if_neg c2] at e4
      rw [bnd_ok c1 (Int32.not_lt.mp c2), if_pos rfl]
      by_cases c4 : lz < (80 : Int32)
      · have q := ltT c4
        have hi := inc_lt c4
        rw [if_pos c4] at e4
        unfold f_X1_add at e4
        rw [if_neg (fun c => by have := ltT c; omega), if_neg (fun c => by have := leT c; omega)] at e4
        rw [if_neg (fun c => by rw [c] at q; omega)]
        cases e4
        exact ⟨rfl, by dsimp only; omega, by dsimp only; omega⟩
      · have q := nltT c4
        rw [if_neg c4, no6] at e4
        rw [if_pos (ofEq (by omega))]
        cases e4
        exact ⟨rfl, h⟩
  · rw [if_neg c1, no4] at e4
    rw [bnd_lo c1, if_neg ne4]
    cases e4
    exact ⟨rfl, h⟩
theorem eq_row {rw rf rw' rf' : Nat → Int32} {rz v r rz' : Int32} (h : 0 ≤ rz.toInt ∧ rz.toInt ≤ 8) (e4 : f_X4_row rz rw rf v = (r, rz', rw', rf')) : f_X5_row rz rf rw v = (r, rz', rf', rw') ∧ 0 ≤ rz'.toInt ∧ rz'.toInt ≤ 8 := by
  have z80 : (8 : Int32).toInt = 8 := rfl
  unfold f_X4_row at e4
  unfold f_X5_row
  simp only [lt1, lt2] at e4 ⊢
  by_cases c1 : (0 : Int32) ≤ v
  · rw [if_pos c1] at e4
    by_cases c2 : (999 : Int32) < v
    · rw [if_pos c2, no6] at e4
      rw [bnd_hi c1 (Int32.not_le.mpr c2), if_neg ne6]
      cases e4
      exact ⟨rfl, h⟩
    · rw [if_neg c2] at e4
      rw [bnd_ok c1 (Int32.not_lt.mp c2), if_pos rfl]
      by_cases c4 : rz < (8 : Int32)
      · have q := ltT c4
        have hi := inc_lt c4
        rw [if_pos c4] at e4
        rw [if_neg (fun c => by rw [c] at q; omega)]
        cases e4
        exact ⟨rfl, by omega, by omega⟩
      · have q := nltT c4
        rw [if_neg c4, no6] at e4
        rw [if_pos (ofEq (by omega))]
        cases e4
        exact ⟨rfl, h⟩
  · rw [if_neg c1, no4] at e4
    rw [bnd_lo c1, if_neg ne4]
    cases e4
    exact ⟨rfl, h⟩
theorem eq_player {rf ya pa sa ta : Nat → Int32} {pc v1 v2 : Int32} : f_X5_player pc rf ya pa sa ta v1 v2 = f_X4_player rf pc ya pa sa ta v1 v2 := by
  unfold f_X4_player
  rw [no1, no2]
  rfl
theorem eq_touch {rf ki fi he tk tf th : Nat → Int32} {tr : Nat → Option Nat} {wd tc v1 v2 : Int32} (hR : TRel tr tk tf th ki fi he tc) (hb : ∀ j, j < 6 → 0 ≤ (he j).toInt ∧ (he j).toInt ≤ 9) (h6 : tc.toInt ≤ 6) : f_X5_touch wd tc rf ki fi he v1 v2 = f_X4_touch rf wd tc tr tk tf th v1 v2 := by
  unfold f_X4_touch f_X5_touch
  simp only [lt1, lt2]
  rw [no1, no2]
  by_cases hz : f_X0_hasTouch tc v1 = 0
  · rw [if_pos hz, if_pos (show f_X5_isTouch tc v1 = 0 from hz)]
  · have ht := hasTouch_t rfl hz
    obtain ⟨a, b, c⟩ := hR.at ht
    have hb1 := hb v1.toNatClampNeg (by have := clampT ht.1; omega)
    rw [if_neg hz, if_neg (show ¬ f_X5_isTouch tc v1 = 0 from hz), eq_air a c hb1, eq_drift a b c hb1, eq_tires a b, a, b, c, Int32.add_comm _ (10 : Int32)]
theorem eq_wind {rf rf' : Nat → Int32} {wd v r wd' : Int32} (h : -3 ≤ wd.toInt ∧ wd.toInt ≤ 3) (e4 : f_X4_wind rf wd v = (r, rf', wd')) : f_X5_wind wd rf v = (r, wd', rf') ∧ -3 ≤ wd'.toInt ∧ wd'.toInt ≤ 3 := by
  have z3 : (3 : Int32).toInt = 3 := rfl
  have zm : (-3 : Int32).toInt = -3 := rfl
  unfold f_X4_wind at e4
  unfold f_X5_wind
  simp only [lt1, lt2] at e4 ⊢
  by_cases c1 : (-3 : Int32) ≤ v
  · rw [if_pos c1] at e4
    by_cases c2 : v ≤ (3 : Int32)
    · rw [if_pos c2] at e4
      have q1 := leT c1
      have q2 := leT c2
      rw [bnd_ok c1 c2, if_pos rfl, Int32.add_comm]
      cases e4
      exact ⟨rfl, by omega, by omega⟩
    · rw [if_neg c2, no6] at e4
      rw [bnd_hi c1 c2, if_neg ne6]
      cases e4
      exact ⟨rfl, h⟩
  · rw [if_neg c1, no4] at e4
    rw [bnd_lo c1, if_neg ne4]
    cases e4
    exact ⟨rfl, h⟩
theorem upd_rng {f : Nat → Int32} {k N : Nat} {x : Int32} {a b : Int} (h : ∀ j, j < N → a ≤ (f j).toInt ∧ (f j).toInt ≤ b) (hx : a ≤ x.toInt ∧ x.toInt ≤ b) : ∀ j, j < N → a ≤ (upd f k x j).toInt ∧ (upd f k x j).toInt ≤ b := by
  intro j hj
  by_cases e : j = k
  · subst e; rw [upd_self]; exact hx
  · rw [upd_ne _ _ e]; exact h j hj
theorem eq_move {rf ya rf' ya' : Nat → Int32} {yd pc v1 v2 r : Int32} (hy : 3 ≤ yd.toInt ∧ yd.toInt ≤ 12) (hq : ∀ j, j < 5 → 0 ≤ (ya j).toInt ∧ (ya j).toInt ≤ 11) (e4 : f_X4_move rf yd pc ya v1 v2 = (r, rf', ya')) : f_X5_move yd pc rf ya v1 v2 = (r, rf', ya') ∧ ∀ j, j < 5 → 0 ≤ (ya' j).toInt ∧ (ya' j).toInt ≤ 11 := by
  have z1 : (1 : Int32).toInt = 1 := rfl
  have z0 : (0 : Int32).toInt = 0 := rfl
  have hs := ts32 (x := yd) (y := (1 : Int32)) (by omega) (by omega)
  unfold f_X4_move at e4
  unfold f_X5_move
  simp only [lt1, lt2] at e4 ⊢
  by_cases hz : f_X0_hasPlayer pc v1 = 0
  · rw [if_pos hz, no1] at e4
    rw [if_pos (show f_X5_isPlayer pc v1 = 0 from hz)]
    cases e4
    exact ⟨rfl, hq⟩
  · rw [if_neg hz] at e4
    rw [if_neg (show ¬ f_X5_isPlayer pc v1 = 0 from hz)]
    by_cases c1 : (0 : Int32) ≤ v2
    · rw [if_pos c1] at e4
      by_cases c2 : v2 < yd
      · have q1 := leT c1
        have q2 := ltT c2
        rw [if_pos c2] at e4
        rw [bnd_ok c1 (ofLe (by omega)), if_pos rfl]
        cases e4
        exact ⟨rfl, upd_rng hq (by omega)⟩
      · have q2 := nltT c2
        rw [if_neg c2, no6] at e4
        rw [bnd_hi c1 (fun c => by have := leT c; omega), if_neg ne6]
        cases e4
        exact ⟨rfl, hq⟩
    · rw [if_neg c1, no4] at e4
      rw [bnd_lo c1, if_neg ne4]
      cases e4
      exact ⟨rfl, hq⟩
theorem eq_give {rf rf' : Nat → Int32} {pc bl tm v1 r bl' tm' : Int32} (hb : bl.toInt = -9 ∨ (0 ≤ bl.toInt ∧ bl.toInt < pc.toInt)) (e4 : f_X4_give rf pc bl tm v1 = (r, rf', bl', tm')) : f_X5_give pc bl tm rf v1 = (r, bl', tm', rf') ∧ (bl'.toInt = -9 ∨ (0 ≤ bl'.toInt ∧ bl'.toInt < pc.toInt)) := by
  unfold f_X4_give at e4
  unfold f_X5_give
  simp only [lt1, lt2] at e4 ⊢
  by_cases hz : f_X0_hasPlayer pc v1 = 0
  · rw [if_pos hz, no1] at e4
    rw [if_pos (show f_X5_isPlayer pc v1 = 0 from hz)]
    cases e4
    exact ⟨rfl, hb⟩
  · rw [if_neg hz] at e4
    rw [if_neg (show ¬ f_X5_isPlayer pc v1 = 0 from hz)]
    have ht := hasPlayer_t rfl hz
    cases e4
    exact ⟨rfl, Or.inr ht⟩
theorem eq_skill {rf sa rf' sa' : Nat → Int32} {pc v1 v2 r : Int32} (hq : ∀ j, j < 5 → 0 ≤ (sa j).toInt ∧ (sa j).toInt ≤ 9) (e4 : f_X4_skill rf pc sa v1 v2 = (r, rf', sa')) : f_X5_skill pc rf sa v1 v2 = (r, rf', sa') ∧ ∀ j, j < 5 → 0 ≤ (sa' j).toInt ∧ (sa' j).toInt ≤ 9 := by
  have z9 : (9 : Int32).toInt = 9 := rfl
  have z0 : (0 : Int32).toInt = 0 := rfl
  unfold f_X4_skill at e4
  unfold f_X5_skill
  simp only [lt1, lt2] at e4 ⊢
  by_cases hz : f_X0_hasPlayer pc v1 = 0
  · rw [if_pos hz, no1] at e4
    rw [if_pos (show f_X5_isPlayer pc v1 = 0 from hz)]
    cases e4
    exact ⟨rfl, hq⟩
  · rw [if_neg hz] at e4
    rw [if_neg (show ¬ f_X5_isPlayer pc v1 = 0 from hz)]
    by_cases c1 : (0 : Int32) ≤ v2
    · rw [if_pos c1] at e4
      by_cases c2 : v2 ≤ (9 : Int32)
      · have q1 := leT c1
        have q2 := leT c2
        rw [if_pos c2] at e4
        rw [bnd_ok c1 c2, if_pos rfl]
        cases e4
        exact ⟨rfl, upd_rng hq (by omega)⟩
      · rw [if_neg c2, no6] at e4
        rw [bnd_hi c1 c2, if_neg ne6]
        cases e4
        exact ⟨rfl, hq⟩
    · rw [if_neg c1, no4] at e4
      rw [bnd_lo c1, if_neg ne4]
      cases e4
      exact ⟨rfl, hq⟩
theorem eq_there (pc tc v1 v2 v3 : Int32) : f_X5_areThere pc tc v1 v2 v3 = f_X4_areThere pc tc v1 v2 v3 := rfl
theorem eq_error {rf sa ta ki fi he tk tf th : Nat → Int32} {tr : Nat → Option Nat} {pc tc v1 v2 v3 : Int32} (hR : TRel tr tk tf th ki fi he tc) : f_X5_error pc tc rf sa ta ki fi he v1 v2 v3 = f_X4_error rf pc tc sa ta tr tk tf th v1 v2 v3 := by
  unfold f_X4_error f_X5_error
  simp only [lt1, lt2]
  rw [no1, eq_there]
  by_cases hz : f_X4_areThere pc tc v1 v2 v3 = 0
  · rw [if_pos hz, if_pos hz]
  · rw [if_neg hz, if_neg hz, eq_err hR (areThere_t rfl hz).1]
theorem eq_allT {pc : Int32} {ta : Nat → Int32} : ∀ (n : Nat) (a b : Int32), f_X5_count_L110 pc ta n a b = f_X0_allTired_L4 pc ta n a b := by
  intro n
  induction n with
  | zero => intro a b; rfl
  | succ n ih =>
    intro a b
    rw [f_X5_count_L110, f_X0_allTired_L4]
    by_cases c : pc ≤ b
    · rw [if_pos c, if_pos c]
    · rw [if_neg c, if_neg c, ih]
theorem eq_count {rf ta : Nat → Int32} {rz yd wd pc tc bl tm lz v : Int32} : f_X5_count yd wd pc tc bl tm lz rz rf ta v = f_X4_count rz rf yd wd pc tc bl tm ta lz v := by
  unfold f_X4_count f_X5_count f_X5_isIn f_X0_allTired
  simp only [lt1]
  rw [eq_allT, Int32.add_comm (3 : Int32) wd]
  by_cases c1 : v < (11 : Int32)
  · rw [if_pos c1, if_pos c1, if_pos rfl]
  · rw [if_neg c1, if_neg c1]
    by_cases c2 : (16 : Int32) < v
    · rw [if_pos c2, if_pos c2, if_pos rfl]
    · rw [if_neg c2, if_neg c2, if_neg (by decide)]
/-- the image stands where the row behind it is written -/
theorem Pk_keep {s s' : Nat → Int32} {a b c d e f : Int32} {g h i j k l m : Nat → Int32} (hP : PkAt s 0 a b c d e f g h i j k l m) (hs : ∀ n : Nat, n < 45 → s' n = s n) : PkAt s' 0 a b c d e f g h i j k l m := by
  unfold PkAt at hP ⊢
  obtain ⟨p1, p2, p3, p4, p5, p6, p7, p8, p9, p10, p11, p12, p13⟩ := hP
  exact ⟨fun n hn => (hs _ (by omega)).trans (p1 n hn), fun n hn => (hs _ (by omega)).trans (p2 n hn), fun n hn => (hs _ (by omega)).trans (p3 n hn), fun n hn => (hs _ (by omega)).trans (p4 n hn), fun n hn => (hs _ (by omega)).trans (p5 n hn), fun n hn => (hs _ (by omega)).trans (p6 n hn), fun n hn => (hs _ (by omega)).trans (p7 n hn), (hs _ (by omega)).trans p8, (hs _ (by omega)).trans p9, (hs _ (by omega)).trans p10, (hs _ (by omega)).trans p11, (hs _ (by omega)).trans p12, (hs _ (by omega)).trans p13⟩
theorem stK_low (m_yards m_wind m_players m_touches m_holder m_kept : Int32) (m_place m_pace m_skillOf m_tired m_kind m_figure m_height m_stored : Nat → Int32) : ∀ n : Nat, n < 45 → stK m_yards m_wind m_players m_touches m_holder m_kept m_place m_pace m_skillOf m_tired m_kind m_figure m_height m_stored (1 : Int32) n = m_stored n := fun n hn => (stK_at m_yards m_wind m_players m_touches m_holder m_kept m_place m_pace m_skillOf m_tired m_kind m_figure m_height m_stored 1 (by decide)).2 n (Or.inl (by show n < 45 * 1; omega))

