theorem lgc_pos {x y : Int64} : (0 : Int32) < lg_cmp x y ↔ y.toInt < x.toInt := by
  unfold lg_cmp
  by_cases c : x > y
  · rw [if_pos c]
    exact ⟨fun _ => Int64.lt_iff_toInt_lt.mp c, fun _ => by decide⟩
  · rw [if_neg c]
    have hn : ¬ y.toInt < x.toInt := fun h => c (Int64.lt_iff_toInt_lt.mpr h)
    by_cases e : x = y
    · rw [if_pos e]; exact ⟨fun h => absurd h (by decide), fun h => absurd h hn⟩
    · rw [if_neg e]; exact ⟨fun h => absurd h (by decide), fun h => absurd h hn⟩
theorem leaf3' {q : Int32} (h : 0 ≤ q.toInt ∧ q.toInt ≤ 13) : ((2 : Int32) * q + (1 : Int32)).toInt = 2 * q.toInt + 1 := leaf3 (by omega)
theorem each_27 {sk ti ki fi he : Nat → Int32} {t o p : Int32} (hM : MV ki fi he sk ti) (ht : vp_in t 6) (ho : vp_in o 5) : 1 ≤ (f_X5_eachOf sk ti ki fi he t o p).toInt ∧ (f_X5_eachOf sk ti ki fi he t o p).toInt ≤ 27 := by
  have hE := errB (p := p) hM ht ho
  unfold f_X5_eachOf
  rw [lt1_def]
  generalize f_X5_errorOf sk ti ki fi he t o p = E at hE ⊢
  rw [leaf3' hE]
  omega
theorem mulB {a b : Int} (ha : 0 ≤ a ∧ a ≤ 28) (hb : 1 ≤ b ∧ b ≤ 27) : 0 ≤ a * b ∧ a * b ≤ 756 := ⟨Int.mul_nonneg ha.1 (by omega), Int.le_trans (Int.mul_le_mul ha.2 hb.2 (by omega) (by omega)) (by decide)⟩
theorem mulT32 {a b : Int32} (ha : 0 ≤ a.toInt ∧ a.toInt ≤ 28) (hb : 1 ≤ b.toInt ∧ b.toInt ≤ 27) : (a * b).toInt = a.toInt * b.toInt := by
  have h := mulB ha hb
  exact tm32 (by omega) (by omega)
theorem arg_step {H W h w : Int32} {P most : Int64} (hP : P.toInt * W.toInt = 5019589575 * H.toInt) (hH : 0 ≤ H.toInt ∧ H.toInt ≤ 28) (hW : 1 ≤ W.toInt ∧ W.toInt ≤ 27) (hR : most.toInt * w.toInt = 5019589575 * h.toInt) (hh : 0 ≤ h.toInt ∧ h.toInt ≤ 28) (hw : 1 ≤ w.toInt ∧ w.toInt ≤ 27) : (H * w ≤ h * W) ↔ ¬ (0 : Int32) < lg_cmp P most := by
  rw [lgc_pos, Int.not_lt, cmp_parts (A := 5019589575) (by decide) hP hR (by omega) (by omega), Int32.le_iff_toInt_le, mulT32 hH hw, mulT32 hh hW]
theorem arg_first {H W : Int32} {P : Int64} (hP : P.toInt * W.toInt = 5019589575 * H.toInt) (hH : 0 ≤ H.toInt ∧ H.toInt ≤ 28) (hW : 1 ≤ W.toInt ∧ W.toInt ≤ 27) (c : H * (1 : Int32) ≤ (0 : Int32) * W) : P.toInt * (1 : Int32).toInt = 5019589575 * (0 : Int32).toInt := by
  rw [Int32.mul_one, Int32.zero_mul] at c
  have q := leT c
  have z0 : (0 : Int32).toInt = 0 := rfl
  have z1 : (1 : Int32).toInt = 1 := rfl
  have h0 : H.toInt = 0 := by omega
  rw [h0] at hP
  rcases Int.mul_eq_zero.mp (hP.trans (by decide)) with h | h
  · rw [h]; rfl
  · omega
theorem m1_64 : (-1 : Int64).toInt = -1 := by decide
theorem who_R {rf ya pa sa ta ki fi he tk tf th : Nat → Int32} {tr : Nat → Option Nat} {yd wd pc tc bl t : Int32} (hL : LV yd wd pc tc bl ya pa sa ta ki fi he) (hR : TRel tr tk tf th ki fi he tc) (ht : 0 ≤ t.toInt ∧ t.toInt < tc.toInt) (hbl : 0 ≤ bl.toInt) : ∀ (n : Nat) (b h w v : Int32) (most : Int64), (pc.toInt - v.toInt).toNat < n → 0 ≤ v.toInt → most.toInt * w.toInt = 5019589575 * h.toInt → (0 ≤ h.toInt ∧ h.toInt ≤ 28) → (1 ≤ w.toInt ∧ w.toInt ≤ 27) → f_X5_who_L24 yd wd pc bl rf ya pa sa ta ki fi he t n b most v = f_X4_who_L40 rf yd wd pc bl ya pa sa ta tr tk tf th t n b h w v := by
  have hL0 := hL
  obtain ⟨hy, hw, hp, htc, hb, hq, hM⟩ := hL0
  have z0 : (0 : Int32).toInt = 0 := rfl
  have vt : vp_in t 6 := vp_of (by omega)
  have vb : vp_in bl 5 := vp_of (by omega)
  intro n
  induction n with
  | zero => intro b h w v most hm; omega
  | succ n ih =>
    intro b h w v most hm hv e1 hh hw
    rw [f_X5_who_L24, f_X4_who_L40]
    by_cases c : pc ≤ v
    · rw [if_pos c, if_pos c]
    have q := nleT c
    have hi := inc_nle c
    rw [if_neg c, if_neg c, if_neg (fun cc => by have := ltT cc; omega), lt1_def, lt1_def, lt1_def, eq_waysHad hR hL ht vb (vp_of (by omega)), eq_ways hR ht]
    have hP := parts_mul (m_yards := yd) (m_wind := wd) (m_place := ya) (m_pace := pa) (v3 := v) hM vt vb
    have hW := each_27 (p := v) hM vt vb
    have hH := hadB (m_yards := yd) (m_wind := wd) (m_place := ya) (m_pace := pa) (m_skillOf := sa) (m_tired := ta) (m_kind := ki) (m_figure := fi) (m_height := he) (v1 := t) (v2 := bl) (v3 := v)
    generalize f_X5_partsOf yd wd ya pa sa ta ki fi he t bl v = P at hP ⊢
    generalize f_X5_eachOf sa ta ki fi he t bl v = W at hP hW ⊢
    generalize f_X5_hadMany yd wd ya pa sa ta ki fi he t bl v = H at hP hH ⊢
    have hs := arg_step hP hH hW e1 hh hw
    by_cases c2 : H * w ≤ h * W
    · rw [if_pos c2, if_neg (hs.mp c2)]
      exact ih b h w (v + 1) most (by omega) (by omega) e1 hh hw
    · rw [if_neg c2, if_pos (Classical.byContradiction (fun z => c2 (hs.mpr z)))]
      exact ih v H W (v + 1) P (by omega) (by omega) hP hH hW
theorem who_0 {rf ya pa sa ta ki fi he tk tf th : Nat → Int32} {tr : Nat → Option Nat} {yd wd pc tc bl t : Int32} (hL : LV yd wd pc tc bl ya pa sa ta ki fi he) (hR : TRel tr tk tf th ki fi he tc) (ht : 0 ≤ t.toInt ∧ t.toInt < tc.toInt) (hbl : 0 ≤ bl.toInt) (n : Nat) (hn : pc.toInt < n + 1) : f_X5_who_L24 yd wd pc bl rf ya pa sa ta ki fi he t (n + 1) (-9) (-1) 0 = f_X4_who_L40 rf yd wd pc bl ya pa sa ta tr tk tf th t (n + 1) 0 0 1 0 := by
  have hL0 := hL
  obtain ⟨hy, hw, hp, htc, hb, hq, hM⟩ := hL0
  have z0 : (0 : Int32).toInt = 0 := rfl
  have z1 : (1 : Int32).toInt = 1 := rfl
  have vt : vp_in t 6 := vp_of (by omega)
  have vb : vp_in bl 5 := vp_of (by omega)
  have v0 : vp_in (0 : Int32) 5 := vp_of (by omega)
  have c : ¬ pc ≤ (0 : Int32) := fun cc => by have := leT cc; omega
  have hi := inc_nle c
  rw [f_X5_who_L24, f_X4_who_L40, if_neg c, if_neg c, if_neg (fun cc => by have := ltT cc; omega), lt1_def, lt1_def, lt1_def, eq_waysHad hR hL ht vb v0, eq_ways hR ht]
  have hP := parts_mul (m_yards := yd) (m_wind := wd) (m_place := ya) (m_pace := pa) (v3 := 0) hM vt vb
  have hW := each_27 (p := 0) hM vt vb
  have hH := hadB (m_yards := yd) (m_wind := wd) (m_place := ya) (m_pace := pa) (m_skillOf := sa) (m_tired := ta) (m_kind := ki) (m_figure := fi) (m_height := he) (v1 := t) (v2 := bl) (v3 := 0)
  have hP0 := (partsB (m_yards := yd) (m_wind := wd) (m_place := ya) (m_pace := pa) (v3 := 0) hM vt vb).1
  generalize f_X5_partsOf yd wd ya pa sa ta ki fi he t bl 0 = P at hP hP0 ⊢
  generalize f_X5_eachOf sa ta ki fi he t bl 0 = W at hP hW ⊢
  generalize f_X5_hadMany yd wd ya pa sa ta ki fi he t bl 0 = H at hP hH ⊢
  have cm : (0 : Int32) < lg_cmp P (-1) := lgc_pos.mpr (by rw [m1_64]; omega)
  rw [if_pos cm]
  by_cases c2 : H * (1 : Int32) ≤ (0 : Int32) * W
  · rw [if_pos c2]
    exact who_R hL hR ht hbl n 0 0 1 (0 + 1) P (by omega) (by omega) (arg_first hP hH hW c2) (by omega) (by omega)
  · rw [if_neg c2]
    exact who_R hL hR ht hbl n 0 H W (0 + 1) P (by omega) (by omega) hP hH hW
theorem eq_who {rf ya pa sa ta ki fi he tk tf th : Nat → Int32} {tr : Nat → Option Nat} {yd wd pc tc bl v1 : Int32} (hL : LV yd wd pc tc bl ya pa sa ta ki fi he) (hR : TRel tr tk tf th ki fi he tc) : f_X5_who yd wd pc tc bl rf ya pa sa ta ki fi he v1 = f_X4_who rf yd wd pc tc bl ya pa sa ta tr tk tf th v1 := by
  have hb := hL.2.2.2.2.1
  have hp := hL.2.2.1
  have z0 : (0 : Int32).toInt = 0 := rfl
  unfold f_X4_who f_X5_who
  rw [lt1_def, lt1_def, no1]
  by_cases hz : f_X0_hasTouch tc v1 = 0
  · rw [if_pos hz, if_pos (show f_X5_isTouch tc v1 = 0 from hz)]
  rw [if_neg hz, if_neg (show ¬ f_X5_isTouch tc v1 = 0 from hz), lt1_def]
  have ht := hasTouch_t rfl hz
  by_cases c : (0 : Int32) ≤ bl
  · have q := leT c
    rw [up_yes hb c, if_neg ne10]
    exact who_0 hL hR ht (by omega) 5 (by omega)
  · rw [up_no hb c, if_pos rfl, f_X5_who_L24, if_pos (Int32.not_le.mp c)]
    split <;> rfl

