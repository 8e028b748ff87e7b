theorem KI_st {ik kyd kwd kpc ktc kbl ktm : Int32} {kya kpa ksa kta st st' tk tf th : Nat → Int32} {ktr : Nat → Option Nat} {LP : List Nat} (h : KI ik kyd kwd kpc ktc kbl ktm kya kpa ksa kta ktr st LP tk tf th) (hs : ∀ n : Nat, n < 45 → st' n = st n) : KI ik kyd kwd kpc ktc kbl ktm kya kpa ksa kta ktr st' LP tk tf th := by
  obtain ⟨h1, h2⟩ := h
  refine ⟨h1, ?_⟩
  rcases h2 with h2 | ⟨a, ki, fi, he, p, q⟩
  · exact Or.inl h2
  · exact Or.inr ⟨a, ki, fi, he, Pk_keep p hs, q⟩
theorem abs_le {E x : Int32} : ((if 0 ≤ x then x else 0 - x) ≤ E) ↔ (if 0 ≤ x then x ≤ E else -x ≤ E) := by
  rw [zsub]
  split <;> exact Iff.rfl
theorem eq_kept {ya pa sa ta ki fi he tk tf th : Nat → Int32} {tr : Nat → Option Nat} {yd wd pc tc bl tm v : Int32} (hL : LV yd wd pc tc bl ya pa sa ta ki fi he) (hR : TRel tr tk tf th ki fi he tc) : ∃ x, f_X4_isHadInMind yd wd pc tc bl tm ya pa sa ta tr tk tf th v = x ∧ f_X5_isKept yd wd pc tc bl tm ya pa sa ta ki fi he v = x ∧ LV yd wd pc tc x.2.1 x.2.2.2.1 pa sa x.2.2.2.2 ki fi he := by
  have hL0 := hL
  obtain ⟨hy, hw, hp, htc, hb, hq, hM⟩ := hL0
  unfold f_X4_isHadInMind f_X5_isKept
  generalize v / (100 : Int32) = a
  generalize ((v / (10 : Int32)) - (v / (10 : Int32)) / (10 : Int32) * (10 : Int32)) = b
  generalize ((v - v / (10 : Int32) * (10 : Int32)) - (4 : Int32)) = e
  simp only [lt1, lt5]
  by_cases c0 : (0 : Int32) ≤ bl
  · rw [up_yes hb c0, if_neg ne10]
    by_cases hz : f_X0_hasTouch tc a = 0
    · rw [if_pos hz, if_pos (show f_X5_isTouch tc a = 0 from hz)]
      refine ⟨_, rfl, ?_, hL⟩
      split <;> rfl
    rw [if_neg hz, if_neg (show ¬ f_X5_isTouch tc a = 0 from hz)]
    by_cases hz2 : f_X0_hasPlayer pc b = 0
    · rw [if_pos hz2, if_pos (show f_X5_isPlayer pc b = 0 from hz2)]
      refine ⟨_, rfl, ?_, hL⟩
      split <;> rfl
    rw [if_neg hz2, if_neg (show ¬ f_X5_isPlayer pc b = 0 from hz2), if_neg (Int32.not_lt.mpr c0)]
    by_cases c4 : (4 : Int32) < e
    · rw [if_pos c4, if_pos c4]
      exact ⟨_, rfl, rfl, hL⟩
    rw [if_neg c4, if_neg c4]
    have ht := hasTouch_t rfl hz
    have ht2 := hasPlayer_t rfl hz2
    rw [eq_err hR ht, eq_play hR ht htc.2 hp hM]
    by_cases c5 : (if 0 ≤ e then e else 0 - e) ≤ f_X5_errorOf sa ta ki fi he a bl b
    · rw [if_pos c5]
      have c6 := abs_le.mp c5
      refine ⟨_, rfl, ?_, LV_keeps hL ht ht2⟩
      by_cases c7 : (0 : Int32) ≤ e
      · rw [if_pos c7] at c6 ⊢
        rw [if_pos c6]
      · rw [if_neg c7] at c6 ⊢
        rw [if_pos c6]
    · rw [if_neg c5]
      have c6 := mt abs_le.mpr c5
      refine ⟨_, rfl, ?_, hL⟩
      by_cases c7 : (0 : Int32) ≤ e
      · rw [if_pos c7] at c6 ⊢
        rw [if_neg c6]
      · rw [if_neg c7] at c6 ⊢
        rw [if_neg c6]
  · rw [up_no hb c0, if_pos rfl, if_pos (Int32.not_le.mp c0)]
    refine ⟨_, rfl, ?_, hL⟩
    (repeat' split) <;> rfl
theorem judge_L {pa sa ki fi he tk tf th rw : Nat → Int32} {tr : Nat → Option Nat} {yd wd pc tc rz : Int32} (hR : TRel tr tk tf th ki fi he tc) : ∀ (n : Nat) (v bl tm ik cu : Int32) (ya ta st : Nat → Int32), (rz.toInt - v.toInt).toNat < n → 0 ≤ v.toInt → LV yd wd pc tc bl ya pa sa ta ki fi he → f_X5_judge_L21 yd wd pc tc pa sa ki fi he rw n rz (-9) v bl tm ik cu 0 ya ta st = ((f_X4_judge_L23 rw yd wd pc tc pa sa tr tk tf th n rz v bl tm ya ta).1, 0, (45 : Int32) * (1 : Int32) + (44 : Int32), 0, st) ∧ (f_X4_judge_L23 rw yd wd pc tc pa sa tr tk tf th n rz v bl tm ya ta).2.1 = 0 := by
  have z0 : (0 : Int32).toInt = 0 := rfl
  intro n
  induction n with
  | zero => intro v bl tm ik cu ya ta st h; omega
  | succ n ih =>
    intro v bl tm ik cu ya ta st hm hv hL
    rw [f_X5_judge_L21, f_X4_judge_L23]
    by_cases c : rz ≤ v
    · rw [if_pos c, if_pos c]; exact ⟨rfl, rfl⟩
    rw [if_neg c, if_neg c, if_neg (show ¬ (0 : Int32) ≤ (-9 : Int32) by decide)]
    have q := nleT c
    have hi := inc_nle c
    obtain ⟨x, e1, e2, hx⟩ := eq_kept (tm := tm) (v := rw v.toNatClampNeg) hL hR
    rw [e1, e2]
    obtain ⟨x1, x2, x3, x4, x5⟩ := x
    rw [lt5_def, lt5_def]
    by_cases c2 : x1 = 0
    · rw [if_pos c2, if_pos c2]
      obtain ⟨k, rfl⟩ : ∃ k, n = k + 1 := ⟨n - 1, by omega⟩
      rw [f_X5_judge_L21]
      by_cases c3 : rz ≤ v + 1
      · rw [if_pos c3]; exact ⟨rfl, rfl⟩
      · rw [if_neg c3, if_pos (ofLe (by omega))]; exact ⟨rfl, rfl⟩
    · rw [if_neg c2, if_neg c2]
      exact ih (v + 1) x2 x3 ik cu x4 x5 st (by omega) (by omega) hx
theorem eq_judge {ya pa sa ta ki fi he tk tf th rw st mya mpa msa mta : Nat → Int32} {tr mtr : Nat → Option Nat} {yd wd pc tc bl tm rz r z a1 a2 a3 a4 a5 a6 : Int32} (hL : LV yd wd pc tc bl ya pa sa ta ki fi he) (hR : TRel tr tk tf th ki fi he tc) (hz : 0 ≤ rz.toInt ∧ rz.toInt ≤ 8) (e4 : f_X4_judge rz rw yd wd pc tc bl tm ya pa sa ta tr tk tf th = (r, z, a1, a2, a3, a4, a5, a6, mya, mpa, msa, mta, mtr)) : f_X5_judge yd wd pc tc bl tm rz ya pa sa ta ki fi he st rw = (r, 0, (45 : Int32) * (1 : Int32) + (44 : Int32), 0, stK yd wd pc tc bl tm ya pa sa ta ki fi he st (1 : Int32)) ∧ z = 0 := by
  unfold f_X4_judge at e4
  unfold f_X5_judge
  obtain ⟨h1, h2⟩ := judge_L (rw := rw) (rz := rz) hR 9 0 bl tm 1 ((45 : Int32) * (1 : Int32) + (44 : Int32)) ya ta (stK yd wd pc tc bl tm ya pa sa ta ki fi he st (1 : Int32)) (by have z0 : (0 : Int32).toInt = 0 := rfl; omega) (by decide) hL
  rw [e4] at h1 h2
  exact ⟨h1, h2⟩
theorem draw_eq {z n : Int32} (h : 1 ≤ n.toInt) : f_X5_draw z n = (f_X4_drawBelow n (f_X4_nextSeed z), f_X4_nextSeed z) := by
  unfold f_X5_draw f_X4_drawBelow f_X4_nextSeed
  rw [if_pos (ofLe (show (1 : Int32).toInt ≤ n.toInt from h))]
theorem draw_rng {z n : Int32} (h : 1 ≤ n.toInt) : 0 ≤ (f_X4_drawBelow n z).toInt ∧ (f_X4_drawBelow n z).toInt < n.toInt := by
  unfold f_X4_drawBelow
  rw [if_pos (ofLe (show (1 : Int32).toInt ≤ n.toInt from h))]
  exact draw_in z n h
theorem inplay_eq {pc tc bl : Int32} (hb : bl.toInt = -9 ∨ (0 ≤ bl.toInt ∧ bl.toInt < pc.toInt)) : f_X5_canKeep tc bl = f_X0_isInPlay pc tc bl := by
  unfold f_X5_canKeep f_X0_isInPlay
  rw [lt1_def]
  by_cases c : (0 : Int32) ≤ bl
  · rw [up_yes hb c, if_neg ne10, if_neg (Int32.not_lt.mpr c)]
  · rw [up_no hb c, if_pos rfl, if_pos (Int32.not_le.mp c)]
theorem keeps_bl {sk ki fi he pl pa ti : Nat → Int32} {t to e yd wd pc bl tm x1 x2 x3 : Int32} {x4 x5 : Nat → Int32} (ht : vp_in t 6) (hp : 0 ≤ pc.toInt ∧ pc.toInt ≤ 5) (hM : MV ki fi he sk ti) (ex : f_X5_keeps yd wd pc bl tm pl pa ti ki fi he t to e = (x1, x2, x3, x4, x5)) : (x1 = 0 → x2.toInt = -9) ∧ (¬ x1 = 0 → x2 = to) := by
  rw [keeps_eq ht hp hM] at ex
  generalize f_X5_isHad yd wd pl pa ki fi he t to e = g at ex
  cases ex
  refine ⟨fun c => ?_, fun c => ?_⟩
  · rw [if_pos c]; rfl
  · rw [if_neg c]
theorem each_rng {sk ti ki fi he : Nat → Int32} {t o p : Int32} (hM : MV ki fi he sk ti) (ht : vp_in t 6) (ho : vp_in o 5) : 1 ≤ (f_X5_eachOf sk ti ki fi he t o p).toInt := by
  have h := eachP (v3 := p) hM ht ho rfl
  rw [Int32.toInt_toInt64] at h
  omega
theorem seeds_L {rf pa sa ki fi he tk tf th : Nat → Int32} {tr : Nat → Option Nat} {yd wd pc tc v1 : Int32} (hR : TRel tr tk tf th ki fi he tc) (h1 : 1 ≤ tc.toInt) (h2 : 1 ≤ pc.toInt) : ∀ (n : Nat) (z v bl tm ik cu : Int32) (ya ta st : Nat → Int32), (v1.toInt - v.toInt).toNat < n → 0 ≤ v.toInt → 0 ≤ bl.toInt → LV yd wd pc tc bl ya pa sa ta ki fi he → ∃ w, f_X5_seeds_L49 yd wd pc tc rf pa sa ki fi he v1 n v v bl tm ik cu z ya ta st = ((f_X4_seeds_L58 rf yd wd pc tc pa sa tr tk tf th v1 n z v bl tm ya ta).1, 0, (45 : Int32) * (1 : Int32) + (44 : Int32), w, rf, st) ∧ (f_X4_seeds_L58 rf yd wd pc tc pa sa tr tk tf th v1 n z v bl tm ya ta).2.1 = rf := by
  have z0 : (0 : Int32).toInt = 0 := rfl
  intro n
  induction n with
  | zero => intro z v bl tm ik cu ya ta st h; omega
  | succ n ih =>
    intro z v bl tm ik cu ya ta st hm hv hbl hL
    have hL0 := hL
    obtain ⟨hy, hw, hp, htc, hb, hq, hM⟩ := hL0
    rw [f_X5_seeds_L49, f_X4_seeds_L58]
    have cb : (0 : Int32) ≤ bl := ofLe (by omega)
    by_cases c : v1 ≤ v
    · rw [if_pos c, if_pos c, if_pos cb]; exact ⟨_, rfl, rfl⟩
    rw [if_neg c, if_neg c, if_neg (Int32.not_lt.mpr cb)]
    have q := nleT c
    have hi := inc_nle c
    rw [draw_eq h1, lt2_def, draw_eq h2, lt2_def]
    repeat rw [lt1_def]
    have d1 := draw_rng (z := f_X4_nextSeed z) h1
    have d2 := draw_rng (z := f_X4_nextSeed (f_X4_nextSeed z)) h2
    generalize f_X4_drawBelow tc (f_X4_nextSeed z) = t at d1 ⊢
    generalize f_X4_drawBelow pc (f_X4_nextSeed (f_X4_nextSeed z)) = to at d2 ⊢
    have ht : vp_in t 6 := vp_of (by omega)
    have hE := each_rng (p := to) hM ht (vp_of (show 0 ≤ bl.toInt ∧ bl.toInt < ((5 : Nat) : Int) by omega))
    rw [draw_eq hE, lt2_def]
    repeat rw [lt1_def]
    rw [eq_ways hR d1, eq_err hR d1, eq_play hR d1 htc.2 hp hM]
    generalize f_X4_drawBelow (f_X5_eachOf sa ta ki fi he t bl to) (f_X4_nextSeed (f_X4_nextSeed (f_X4_nextSeed z))) - f_X5_errorOf sa ta ki fi he t bl to = e
    have hx := LV_keeps (tm := tm) (e := e) hL d1 d2
    rcases ex : f_X5_keeps yd wd pc bl tm ya pa ta ki fi he t to e with ⟨x1, x2, x3, x4, x5⟩
    rw [ex] at hx
    have hk := keeps_bl ht hp hM ex
    rw [lt5_def, lt5_def]
    by_cases c2 : x1 = 0
    · rw [if_pos c2, if_pos c2]
      have hn := hk.1 c2
      obtain ⟨k, rfl⟩ : ∃ k, n = k + 1 := ⟨n - 1, by omega⟩
      rw [f_X5_seeds_L49]
      have cx : ¬ (0 : Int32) ≤ x2 := fun cc => by have := leT cc; omega
      have e0 : v + (0 : Int32) = v := Int32.add_zero v
      by_cases c3 : v1 ≤ v + 1
      · rw [if_pos c3, if_neg cx, e0]; exact ⟨_, rfl, rfl⟩
      · rw [if_neg c3, if_pos (Int32.not_le.mp cx), if_neg cx, e0]; exact ⟨_, rfl, rfl⟩
    · rw [if_neg c2, if_neg c2]
      exact ih _ (v + 1) x2 x3 ik cu x4 x5 st (by omega) (by omega) (by rw [hk.2 c2]; omega) hx
theorem eq_seeds {rf ya pa sa ta ki fi he tk tf th st rf' b1 b2 b3 b4 b1' b2' b3' b4' : Nat → Int32} {tr mtr mtr' : Nat → Option Nat} {yd wd pc tc bl tm ik cu lo v1 v2 r a1 a2 a3 a4 a5 a6 a1' a2' a3' a4' a5' a6' : Int32} (hL : LV yd wd pc tc bl ya pa sa ta ki fi he) (hR : TRel tr tk tf th ki fi he tc) (e4 : f_X4_seeds rf yd wd pc tc bl tm ya pa sa ta tr a1 a2 a3 a4 a5 a6 b1 b2 b3 b4 mtr tk tf th v1 v2 = (r, rf', a1', a2', a3', a4', a5', a6', b1', b2', b3', b4', mtr')) : ∃ ik' cu' lo' st', f_X5_seeds yd wd pc tc bl tm ik cu lo rf ya pa sa ta ki fi he st v1 v2 = (r, ik', cu', lo', rf', st') ∧ ∀ n : Nat, n < 45 → st' n = st n := by
  have hb := hL.2.2.2.2.1
  unfold f_X4_seeds at e4
  unfold f_X5_seeds
  rw [lt1_def]
  by_cases c1 : (1 : Int32) ≤ v1
  · rw [if_pos c1] at e4
    by_cases c2 : v1 ≤ (40 : Int32)
    · rw [if_pos c2, lt1_def] at e4
      rw [bnd_ok c1 c2, if_pos rfl, lt1_def, inplay_eq hb]
      by_cases c3 : f_X0_isInPlay pc tc bl = 0
      · rw [if_pos c3, no3] at e4
        rw [if_pos c3]
        simp only [lt2] at e4 ⊢
        cases e4
        exact ⟨_, _, _, _, rfl, fun _ _ => rfl⟩
      · rw [if_neg c3] at e4
        rw [if_neg c3]
        have hpl := isInPlay_t rfl c3
        have z40 : (40 : Int32).toInt = 40 := rfl
        have q40 := leT c2
        obtain ⟨w, h1, h2⟩ := seeds_L (rf := rf) (v1 := v1) hR (by omega) (by omega) 41 v2 0 bl tm 1 ((45 : Int32) * (1 : Int32) + (44 : Int32)) ya ta (stK yd wd pc tc bl tm ya pa sa ta ki fi he st (1 : Int32)) (by have z0 : (0 : Int32).toInt = 0 := rfl; omega) (by decide) hpl.1.1 hL
        rw [e4] at h1 h2
        dsimp only at h2
        rw [h2]
        exact ⟨_, _, _, _, h1, stK_low _ _ _ _ _ _ _ _ _ _ _ _ _ _⟩
    · rw [if_neg c2, no6] at e4
      rw [bnd_hi c1 c2, if_neg ne6]
      simp only [lt2] at e4 ⊢
      cases e4
      exact ⟨_, _, _, _, rfl, fun _ _ => rfl⟩
  · rw [if_neg c1, no4] at e4
    rw [bnd_lo c1, if_neg ne4]
    simp only [lt2] at e4 ⊢
    cases e4
    exact ⟨_, _, _, _, rfl, fun _ _ => rfl⟩

