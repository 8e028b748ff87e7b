theorem upd_upd (f : Nat → Int32) (k : Nat) (x y : Int32) : upd (upd f k x) k y = upd f k y := by
  funext j
  by_cases e : j = k
  · subst e; rw [upd_self, upd_self]
  · rw [upd_ne _ _ e, upd_ne _ _ e, upd_ne _ _ e]
theorem upd_id (f : Nat → Int32) (k : Nat) : upd f k (f k) = f := by
  funext j
  by_cases e : j = k
  · subst e; rw [upd_self]
  · rw [upd_ne _ _ e]
theorem one_step {H W h : Int32} {P most : Int64} (hP : P.toInt * W.toInt = 5019589575 * H.toInt) (hW : 1 ≤ W.toInt ∧ W.toInt ≤ 27) (hR : most.toInt * W.toInt = 5019589575 * h.toInt) : (H ≤ h) ↔ ¬ (0 : Int32) < lg_cmp P most := by
  rw [lgc_pos, Int.not_lt, Int32.le_iff_toInt_le]
  have hw : 0 < W.toInt := by omega
  constructor
  · intro h1
    have h2 : P.toInt * W.toInt ≤ most.toInt * W.toInt := by rw [hP, hR]; omega
    exact Int.le_of_mul_le_mul_right h2 hw
  · intro h1
    have h2 : P.toInt * W.toInt ≤ most.toInt * W.toInt := Int.mul_le_mul_of_nonneg_right h1 (by omega)
    rw [hP, hR] at h2
    omega
theorem LV_place {ya pa sa ta ki fi he : Nat → Int32} {yd wd pc tc bl : Int32} {k : Nat} {y : Int32} (hL : LV yd wd pc tc bl ya pa sa ta ki fi he) (hy : 0 ≤ y.toInt ∧ y.toInt ≤ 11) : LV yd wd pc tc bl (upd ya k y) pa sa ta ki fi he := by
  obtain ⟨h1, h2, h3, h4, h5, h6, h7⟩ := hL
  exact ⟨h1, h2, h3, h4, h5, fun j hj => ⟨upd_rng (fun j hj => (h6 j hj).1) hy j hj, (h6 j hj).2⟩, h7⟩
/-- what class and model read at a place y -/
theorem stand_v {ya pa sa ta ki fi he tk tf th : Nat → Int32} {tr : Nat → Option Nat} {yd wd pc tc bl t p y : Int32} (hL : LV yd wd pc tc bl ya pa sa ta ki fi he) (hR : TRel tr tk tf th ki fi he tc) (ht : 0 ≤ t.toInt ∧ t.toInt < tc.toInt) (hbl : 0 ≤ bl.toInt) (hp : 0 ≤ p.toInt ∧ p.toInt < pc.toInt) (hy : 0 ≤ y.toInt ∧ y.toInt ≤ 11) : ∃ (H : Int32) (P : Int64), f_X0_waysHad yd wd (upd ya p.toNatClampNeg y) pa sa ta tr tk tf th t bl p = H ∧ f_X5_partsOf yd wd (upd ya p.toNatClampNeg y) pa sa ta ki fi he t bl p = P ∧ P.toInt * (f_X5_eachOf sa ta ki fi he t bl p).toInt = 5019589575 * H.toInt ∧ 0 ≤ H.toInt ∧ 0 ≤ P.toInt := by
  have hL2 := LV_place (k := p.toNatClampNeg) hL hy
  have hL0 := hL
  obtain ⟨h1, h2, h3, h4, h5, h6, hM⟩ := hL0
  have vt : vp_in t 6 := vp_of (by omega)
  have vb : vp_in bl 5 := vp_of (by omega)
  refine ⟨_, _, rfl, rfl, ?_, ?_, ?_⟩
  · rw [eq_waysHad hR hL2 ht vb (vp_of (by omega))]
    exact parts_mul hM vt vb
  · rw [eq_waysHad hR hL2 ht vb (vp_of (by omega))]
    exact hadB.1
  · exact (partsB hM vt vb).1
theorem stand_R {rf ya pa sa ta ki fi he tk tf th : Nat → Int32} {tr : Nat → Option Nat} {yd wd pc tc bl tm t p : Int32} (hL : LV yd wd pc tc bl ya pa sa ta ki fi he) (hR : TRel tr tk tf th ki fi he tc) (ht : 0 ≤ t.toInt ∧ t.toInt < tc.toInt) (hbl : 0 ≤ bl.toInt) (hp : 0 ≤ p.toInt ∧ p.toInt < pc.toInt) : ∀ (n : Nat) (b h v : Int32) (most : Int64) (pl : Nat → Int32), (yd.toInt - v.toInt).toNat < n → 0 ≤ v.toInt → (∀ x, upd pl p.toNatClampNeg x = upd ya p.toNatClampNeg x) → most.toInt * (f_X5_eachOf sa ta ki fi he t bl p).toInt = 5019589575 * h.toInt → f_X5_stand_L51 yd wd bl rf pa sa ta ki fi he t p n (ya p.toNatClampNeg) b most v pl = ((f_X4_stand_L60 rf yd wd pc tc bl tm pa sa ta tr tk tf th t p n b h v pl).1, rf, ya) ∧ (f_X4_stand_L60 rf yd wd pc tc bl tm pa sa ta tr tk tf th t p n b h v pl).2.1 = rf := by
  have hy := hL.1
  have hW := each_27 (p := p) hL.2.2.2.2.2.2 (show vp_in t 6 from vp_of (by have := hL.2.2.2.1; omega)) (show vp_in bl 5 from vp_of (by have := hL.2.2.1; have := hL.2.2.2.2.1; omega))
  intro n
  induction n with
  | zero => intro b h v most pl hm; omega
  | succ n ih =>
    intro b h v most pl hm hv hpl e1
    rw [f_X5_stand_L51, f_X4_stand_L60]
    by_cases c : yd ≤ v
    · rw [if_pos c, if_pos c, hpl, upd_id]; exact ⟨rfl, rfl⟩
    have q := nleT c
    have hi := inc_nle c
    rw [if_neg c, if_neg c, lt1_def, lt1_def, hpl]
    obtain ⟨H, P, e2, e3, e4, h5, h6⟩ := stand_v hL hR ht hbl hp (y := v) (by omega)
    rw [e2, e3]
    have hs := one_step e4 hW e1
    have hpl2 : ∀ x, upd (upd ya p.toNatClampNeg v) p.toNatClampNeg x = upd ya p.toNatClampNeg x := fun x => upd_upd _ _ _ _
    by_cases c2 : H ≤ h
    · rw [if_pos c2, if_neg (hs.mp c2)]
      exact ih b h (v + 1) most _ (by omega) (by omega) hpl2 e1
    · rw [if_neg c2, if_pos (Classical.byContradiction (fun z => c2 (hs.mpr z)))]
      exact ih v H (v + 1) P _ (by omega) (by omega) hpl2 e4
theorem m1_32 : (-1 : Int32).toInt = -1 := by decide
theorem stand_0 {rf ya pa sa ta ki fi he tk tf th : Nat → Int32} {tr : Nat → Option Nat} {yd wd pc tc bl tm t p : Int32} (hL : LV yd wd pc tc bl ya pa sa ta ki fi he) (hR : TRel tr tk tf th ki fi he tc) (ht : 0 ≤ t.toInt ∧ t.toInt < tc.toInt) (hbl : 0 ≤ bl.toInt) (hp : 0 ≤ p.toInt ∧ p.toInt < pc.toInt) (n : Nat) (hn : yd.toInt < n + 1) : f_X5_stand_L51 yd wd bl rf pa sa ta ki fi he t p (n + 1) (ya p.toNatClampNeg) (-9) (-1) 0 ya = ((f_X4_stand_L60 rf yd wd pc tc bl tm pa sa ta tr tk tf th t p (n + 1) 0 (-1) 0 ya).1, rf, ya) ∧ (f_X4_stand_L60 rf yd wd pc tc bl tm pa sa ta tr tk tf th t p (n + 1) 0 (-1) 0 ya).2.1 = rf := by
  have hy := hL.1
  have z0 : (0 : Int32).toInt = 0 := rfl
  have c : ¬ yd ≤ (0 : Int32) := fun cc => by have := leT cc; omega
  have hi := inc_nle c
  rw [f_X5_stand_L51, f_X4_stand_L60, if_neg c, if_neg c, lt1_def, lt1_def]
  obtain ⟨H, P, e2, e3, e4, h5, h6⟩ := stand_v hL hR ht hbl hp (y := 0) (by omega)
  rw [e2, e3]
  have cm : (0 : Int32) < lg_cmp P (-1) := lgc_pos.mpr (by rw [m1_64]; omega)
  rw [if_pos cm, if_neg (show ¬ H ≤ (-1 : Int32) from fun cc => by have := leT cc; rw [m1_32] at this; omega)]
  exact stand_R hL hR ht hbl hp n 0 H (0 + 1) P _ (by omega) (by omega) (fun x => upd_upd _ _ _ _) e4
theorem eq_stand {rf ya pa sa ta ki fi he tk tf th rf' b1 b2 b3 b4 b1' b2' b3' b4' : Nat → Int32} {tr mtr mtr' : Nat → Option Nat} {yd wd pc tc bl tm v1 v2 r a1 a2 a3 a4 a5 a6 a1' a2' a3' a4' a5' a6' : Int32} (hL : LV yd wd pc tc bl ya pa sa ta ki fi he) (hR : TRel tr tk tf th ki fi he tc) (e4 : f_X4_stand rf yd wd pc tc bl tm ya pa sa ta tr a1 a2 a3 a4 a5 a6 b1 b2 b3 b4 mtr tk tf th v1 v2 = (r, rf', a1', a2', a3', a4', a5', a6', b1', b2', b3', b4', mtr')) : f_X5_stand yd wd pc tc bl rf ya pa sa ta ki fi he v1 v2 = (r, rf', ya) := by
  have hb := hL.2.2.2.2.1
  have z0 : (0 : Int32).toInt = 0 := rfl
  unfold f_X4_stand at e4
  unfold f_X5_stand
  rw [lt1_def] at e4 ⊢
  by_cases hz : f_X0_hasTouch tc v1 = 0
  · rw [if_pos hz, no1] at e4
    rw [if_pos (show f_X5_isTouch tc v1 = 0 from hz)]
    simp only [lt2] at e4 ⊢
    cases e4; rfl
  rw [if_neg hz, lt1_def] at e4
  rw [if_neg (show ¬ f_X5_isTouch tc v1 = 0 from hz), lt1_def]
  by_cases hz2 : f_X0_hasPlayer pc v2 = 0
  · rw [if_pos hz2, no1] at e4
    rw [if_pos (show f_X5_isPlayer pc v2 = 0 from hz2)]
    simp only [lt2] at e4 ⊢
    cases e4; rfl
  rw [if_neg hz2, lt1_def] at e4
  rw [if_neg (show ¬ f_X5_isPlayer pc v2 = 0 from hz2)]
  have ht := hasTouch_t rfl hz
  have ht2 := hasPlayer_t rfl hz2
  by_cases c : (0 : Int32) ≤ bl
  · have q := leT c
    rw [up_yes hb c, if_neg ne10] at e4
    rw [if_pos c]
    obtain ⟨h1, h2⟩ := stand_0 (rf := rf) (tm := tm) hL hR ht (by omega) ht2 12 (by have := hL.1; omega)
    rw [e4] at h1 h2
    dsimp only at h2
    rw [h2]
    exact h1
  · rw [up_no hb c, if_pos rfl] at e4
    rw [if_neg c]
    cases e4; rfl
/-- a best one stands where it can -/
def VB (tc pc b : Int32) : Prop := 0 ≤ b.toInt ∧ b.toInt / 10 < tc.toInt ∧ b.toInt % 10 < pc.toInt
section BE
variable {ya pa sa ta ki fi he tk tf th : Nat → Int32} {tr : Nat → Option Nat} {yd wd pc tc bl : Int32}
theorem t10 (hL : LV yd wd pc tc bl ya pa sa ta ki fi he) : ((10 : Int32) * tc).toInt = 10 * tc.toInt := mul10 (by have := hL.2.2.2.1; omega)
/-- the model passes over the places behind the last player -/
theorem best_skip (hL : LV yd wd pc tc bl ya pa sa ta ki fi he) {T : Int} (hT : 0 ≤ T ∧ T < tc.toInt) {b : Int32} {most : Int64} : ∀ (j m : Nat) (k : Int32), k.toInt + j = 10 * (T + 1) → (j : Int) + pc.toInt ≤ 10 → (10 * tc.toInt - k.toInt).toNat < m → ∃ (m' : Nat) (k' : Int32), k'.toInt = 10 * (T + 1) ∧ (10 * tc.toInt - k'.toInt).toNat < m' ∧ f_X5_bestNow_L10 yd wd pc tc bl ya pa sa ta ki fi he m b most k = f_X5_bestNow_L10 yd wd pc tc bl ya pa sa ta ki fi he m' b most k' := by
  have z10 : (10 : Int32).toInt = 10 := rfl
  have hp := hL.2.2.1
  have h10 := t10 hL
  intro j
  induction j with
  | zero => intro m k hk _ hm; exact ⟨m, k, by omega, hm, rfl⟩
  | succ j ih =>
    intro m k hk hj hm
    obtain ⟨m, rfl⟩ : ∃ q, m = q + 1 := ⟨m - 1, by omega⟩
    have hk0 : 0 ≤ k.toInt := by omega
    have c : ¬ (10 : Int32) * tc ≤ k := fun cc => by have := leT cc; omega
    have hi := inc_nle c
    have rt := tr32 (x := k) (y := (10 : Int32)) 10 rfl (by omega) hk0
    obtain ⟨m', k', h1, h2, h3⟩ := ih m (k + 1) (by omega) (by omega) (by omega)
    refine ⟨m', k', h1, h2, ?_⟩
    rw [f_X5_bestNow_L10, if_neg c, if_pos (ofLe (by rw [rt]; omega))]
    exact h3
/-- one touch's players: the class's inner loop and the model's places -/
theorem best_in (hL : LV yd wd pc tc bl ya pa sa ta ki fi he) (hR : TRel tr tk tf th ki fi he tc) (hbl : 0 ≤ bl.toInt) {K : Int32 → Int32 → Int32 → Int32 → Int32} {t : Int32} (ht : 0 ≤ t.toInt ∧ t.toInt < tc.toInt)
    (hK : ∀ (b h w : Int32) (most : Int64) (m : Nat) (k : Int32), k.toInt = 10 * (t.toInt + 1) → (10 * tc.toInt - k.toInt).toNat < m → most.toInt * w.toInt = 5019589575 * h.toInt → (0 ≤ h.toInt ∧ h.toInt ≤ 28) → (1 ≤ w.toInt ∧ w.toInt ≤ 27) → VB tc pc b → K b h w (t + 1) = f_X5_bestNow_L10 yd wd pc tc bl ya pa sa ta ki fi he m b most k ∧ VB tc pc (K b h w (t + 1))) :
    ∀ (n : Nat) (b h w v : Int32) (most : Int64) (m : Nat) (k : Int32), (pc.toInt - v.toInt).toNat < n → 0 ≤ v.toInt → v.toInt ≤ pc.toInt → k.toInt = 10 * t.toInt + v.toInt → (10 * tc.toInt - k.toInt).toNat < m → most.toInt * w.toInt = 5019589575 * h.toInt → (0 ≤ h.toInt ∧ h.toInt ≤ 28) → (1 ≤ w.toInt ∧ w.toInt ≤ 27) → VB tc pc b → f_X0_bestMove_L21 yd wd pc tc bl ya pa sa ta tr tk tf th K n b h w t v = f_X5_bestNow_L10 yd wd pc tc bl ya pa sa ta ki fi he m b most k ∧ VB tc pc (f_X0_bestMove_L21 yd wd pc tc bl ya pa sa ta tr tk tf th K n b h w t v) := by
  have hL0 := hL
  obtain ⟨hy, hw, hp, htc, hb, hq, hM⟩ := hL0
  have z10 : (10 : Int32).toInt = 10 := rfl
  have h10 := t10 hL
  have m10 := mul10 (x := t) (by omega)
  have vt : vp_in t 6 := vp_of (by omega)
  have vb : vp_in bl 5 := vp_of (by omega)
  intro n
  induction n with
  | zero => intro b h w v most m k hm; omega
  | succ n ih =>
    intro b h w v most m k hm hv hvp hk hmk e1 hh hw1 hVB
    rw [f_X0_bestMove_L21]
    by_cases c : pc ≤ v
    · have q := leT c
      rw [if_pos c]
      obtain ⟨m', k', g1, g2, g3⟩ := best_skip hL (T := t.toInt) ht (b := b) (most := most) (10 - v.toInt).toNat m k (by omega) (by omega) hmk
      rw [g3]
      exact hK b h w most m' k' g1 g2 e1 hh hw1 hVB
    · have q := nleT c
      have hi := inc_nle c
      obtain ⟨m, rfl⟩ : ∃ z, m = z + 1 := ⟨m - 1, by omega⟩
      have c3 : ¬ (10 : Int32) * tc ≤ k := fun cc => by have := leT cc; omega
      have hik := inc_nle c3
      have rt := tr32 (x := k) (y := (10 : Int32)) 10 rfl (by omega) (by omega)
      have dt := td32 (x := k) (y := (10 : Int32)) 10 rfl (by omega) (by omega)
      have ek : k / (10 : Int32) = t := ofEq (by omega)
      have ev : k - k / (10 : Int32) * (10 : Int32) = v := ofEq (by rw [rt]; omega)
      have eb : (10 : Int32) * t + v = k := ofEq (by have h := ta32 (x := (10 : Int32) * t) (y := v) (by omega) (by omega); omega)
      rw [if_neg c, lt1_def, lt1_def, f_X5_bestNow_L10, if_neg c3, ev, ek, if_neg c, lt1_def, eq_waysHad hR hL ht vb (vp_of (by omega)), eq_ways hR ht]
      have hP := parts_mul (m_yards := yd) (m_wind := wd) (m_place := ya) (m_pace := pa) (v3 := v) hM vt vb
      have hW := each_27 (p := v) hM vt vb
      have hH := hadB (m_yards := yd) (m_wind := wd) (m_place := ya) (m_pace := pa) (m_skillOf := sa) (m_tired := ta) (m_kind := ki) (m_figure := fi) (m_height := he) (v1 := t) (v2 := bl) (v3 := v)
      generalize f_X5_partsOf yd wd ya pa sa ta ki fi he t bl v = P at hP ⊢
      generalize f_X5_eachOf sa ta ki fi he t bl v = W at hP hW ⊢
      generalize f_X5_hadMany yd wd ya pa sa ta ki fi he t bl v = H at hP hH ⊢
      have hs := arg_step hP hH hW e1 hh hw1
      by_cases c2 : H * w ≤ h * W
      · rw [if_pos c2, if_neg (hs.mp c2)]
        exact ih b h w (v + 1) most m (k + 1) (by omega) (by omega) (by omega) (by omega) (by omega) e1 hh hw1 hVB
      · rw [if_neg c2, if_pos (Classical.byContradiction (fun z => c2 (hs.mpr z))), lt1_def, eb]
        exact ih k H W (v + 1) P m (k + 1) (by omega) (by omega) (by omega) (by omega) (by omega) hP hH hW (by unfold VB; omega)
theorem best_out (hL : LV yd wd pc tc bl ya pa sa ta ki fi he) (hR : TRel tr tk tf th ki fi he tc) (hbl : 0 ≤ bl.toInt) : ∀ (n : Nat) (b h w t : Int32) (most : Int64) (m : Nat) (k : Int32), (tc.toInt - t.toInt).toNat < n → 0 ≤ t.toInt → t.toInt ≤ tc.toInt → k.toInt = 10 * t.toInt → (10 * tc.toInt - k.toInt).toNat < m → most.toInt * w.toInt = 5019589575 * h.toInt → (0 ≤ h.toInt ∧ h.toInt ≤ 28) → (1 ≤ w.toInt ∧ w.toInt ≤ 27) → VB tc pc b → f_X0_bestMove_L9 yd wd pc tc bl ya pa sa ta tr tk tf th n b h w t = f_X5_bestNow_L10 yd wd pc tc bl ya pa sa ta ki fi he m b most k ∧ VB tc pc (f_X0_bestMove_L9 yd wd pc tc bl ya pa sa ta tr tk tf th n b h w t) := by
  have hp := hL.2.2.1
  have h10 := t10 hL
  have z0 : (0 : Int32).toInt = 0 := rfl
  intro n
  induction n with
  | zero => intro b h w t most m k hm; omega
  | succ n ih =>
    intro b h w t most m k hm ht0 htt hk hmk e1 hh hw1 hVB
    rw [f_X0_bestMove_L9]
    by_cases c : tc ≤ t
    · have q := leT c
      obtain ⟨m, rfl⟩ : ∃ z, m = z + 1 := ⟨m - 1, by omega⟩
      rw [if_pos c, f_X5_bestNow_L10, if_pos (ofLe (by omega))]
      exact ⟨rfl, hVB⟩
    · have q := nleT c
      have hi := inc_nle c
      rw [if_neg c]
      refine best_in hL hR hbl ⟨ht0, q⟩ (fun b h w most m k hk hmk e1 hh hw1 hVB => ?_) 6 b h w 0 most m k (by omega) (by omega) (by omega) (by omega) hmk e1 hh hw1 hVB
      exact ih b h w (t + 1) most m k (by omega) (by omega) (by omega) (by omega) hmk e1 hh hw1 hVB
theorem eq_best0 (hL : LV yd wd pc tc bl ya pa sa ta ki fi he) (hR : TRel tr tk tf th ki fi he tc) (hbl : 0 ≤ bl.toInt) (h1 : 1 ≤ tc.toInt) : f_X0_bestMove yd wd pc tc bl ya pa sa ta tr tk tf th = f_X5_bestNow yd wd pc tc bl ya pa sa ta ki fi he ∧ VB tc pc (f_X0_bestMove yd wd pc tc bl ya pa sa ta tr tk tf th) := by
  have hL0 := hL
  obtain ⟨hy, hw, hp, htc, hb, hq, hM⟩ := hL0
  have z0 : (0 : Int32).toInt = 0 := rfl
  have z1 : (1 : Int32).toInt = 1 := rfl
  have z10 : (10 : Int32).toInt = 10 := rfl
  have h10 := t10 hL
  have vb : vp_in bl 5 := vp_of (by omega)
  have v0 : vp_in (0 : Int32) 5 := vp_of (by omega)
  have vt : vp_in (0 : Int32) 6 := vp_of (by omega)
  have ht : 0 ≤ (0 : Int32).toInt ∧ (0 : Int32).toInt < tc.toInt := by omega
  have c1 : ¬ tc ≤ (0 : Int32) := fun cc => by have := leT cc; omega
  have c2 : ¬ pc ≤ (0 : Int32) := fun cc => by have := leT cc; omega
  have c3 : ¬ (10 : Int32) * tc ≤ (0 : Int32) := fun cc => by have := leT cc; omega
  have i1 := inc_nle c1
  have ek : (0 : Int32) / (10 : Int32) = 0 := by decide
  have ev : (0 : Int32) - (0 : Int32) * (10 : Int32) = 0 := by decide
  have eb : (10 : Int32) * (0 : Int32) + (0 : Int32) = 0 := by decide
  unfold f_X0_bestMove f_X5_bestNow
  rw [f_X0_bestMove_L9, if_neg c1, f_X0_bestMove_L21, if_neg c2, lt1_def, lt1_def, f_X5_bestNow_L10, if_neg c3, ek, ev, if_neg c2, lt1_def, eq_waysHad hR hL ht vb v0, eq_ways hR ht]
  have hP := parts_mul (m_yards := yd) (m_wind := wd) (m_place := ya) (m_pace := pa) (v3 := 0) hM vt vb
  have hW := each_27 (p := 0) hM vt vb
  have hH := hadB (m_yards := yd) (m_wind := wd) (m_place := ya) (m_pace := pa) (m_skillOf := sa) (m_tired := ta) (m_kind := ki) (m_figure := fi) (m_height := he) (v1 := 0) (v2 := bl) (v3 := 0)
  have hP0 := (partsB (m_yards := yd) (m_wind := wd) (m_place := ya) (m_pace := pa) (v3 := 0) hM vt vb).1
  generalize f_X5_partsOf yd wd ya pa sa ta ki fi he 0 bl 0 = P at hP hP0 ⊢
  generalize f_X5_eachOf sa ta ki fi he 0 bl 0 = W at hP hW ⊢
  generalize f_X5_hadMany yd wd ya pa sa ta ki fi he 0 bl 0 = H at hP hH ⊢
  have cm : (0 : Int32) < lg_cmp P (-1) := lgc_pos.mpr (by rw [m1_64]; omega)
  rw [if_pos cm, lt1_def, eb]
  have hVB : VB tc pc 0 := by unfold VB; omega
  have hKK : ∀ (b h w : Int32) (most : Int64) (m : Nat) (k : Int32), k.toInt = 10 * ((0 : Int32).toInt + 1) → (10 * tc.toInt - k.toInt).toNat < m → most.toInt * w.toInt = 5019589575 * h.toInt → (0 ≤ h.toInt ∧ h.toInt ≤ 28) → (1 ≤ w.toInt ∧ w.toInt ≤ 27) → VB tc pc b → (fun v1_ v2_ v3_ v4_ => f_X0_bestMove_L9 yd wd pc tc bl ya pa sa ta tr tk tf th 6 v1_ v2_ v3_ v4_) b h w (0 + 1) = f_X5_bestNow_L10 yd wd pc tc bl ya pa sa ta ki fi he m b most k ∧ VB tc pc ((fun v1_ v2_ v3_ v4_ => f_X0_bestMove_L9 yd wd pc tc bl ya pa sa ta tr tk tf th 6 v1_ v2_ v3_ v4_) b h w (0 + 1)) := fun b h w most m k hk hmk e1 hh hw1 hVB => best_out hL hR hbl 6 b h w (0 + 1) most m k (by omega) (by omega) (by omega) (by omega) hmk e1 hh hw1 hVB
  by_cases c5 : H * (1 : Int32) ≤ (0 : Int32) * W
  · rw [if_pos c5]
    exact best_in hL hR hbl ht hKK 5 0 0 1 (0 + 1) P 60 (0 + 1) (by omega) (by omega) (by omega) (by omega) (by omega) (arg_first hP hH hW c5) (by omega) (by omega) hVB
  · rw [if_neg c5]
    exact best_in hL hR hbl ht hKK 5 0 H W (0 + 1) P 60 (0 + 1) (by omega) (by omega) (by omega) (by omega) (by omega) hP hH hW hVB
theorem eq_best (hL : LV yd wd pc tc bl ya pa sa ta ki fi he) (hR : TRel tr tk tf th ki fi he tc) : f_X5_best yd wd pc tc bl ya pa sa ta ki fi he = f_X4_best yd wd pc tc bl ya pa sa ta tr tk tf th := by
  unfold f_X4_best f_X5_best
  simp only [lt1]
  rw [inplay_eq hL.2.2.2.2.1]
  by_cases c : f_X0_isInPlay pc tc bl = 0
  · rw [if_pos c, if_pos c]
  · have hpl := isInPlay_t rfl c
    rw [if_neg c, if_neg c, (eq_best0 hL hR hpl.1.1 (by omega)).1]
end BE

