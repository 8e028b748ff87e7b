def f_X2_commonDivisor_L9 : Nat → Int64 → Int64 → Int32 → Int64
  | 0, v4, v6, v8 => 0
  | n_9 + 1, v4, v6, v8 => (if (200 : Int32) ≤ v8 then v4 else (if (lg_cmp v6 (0 : Int64)) = (0 : Int32) then v4 else (f_X2_commonDivisor_L9 n_9 v6 (v4 - v4 / v6 * v6) (v8 + (1 : Int32)))))
def f_X2_commonDivisor (v0 : Int64) (v2 : Int64) : Int64 := (f_X2_commonDivisor_L9 201 v2 v0 (0 : Int32))
abbrev rm_X2_commonDivisor : Room := { frames := 0, cells := 0, slots := 0, locals := 0 }
noncomputable abbrev wd_X2_commonDivisor : List Cond := .code yX2_commonDivisor cX2_commonDivisor 11 (some .long) :: wsL_law
set_option maxHeartbeats 4000000 in
set_option maxRecDepth 100000 in
theorem c_X2_commonDivisor (l : Launch) (dC : Nat → ClassId) (dI : Nat → Nat → Nat) (cI cT : ClassId) (pl : va_W) (v0 : Int64) (v2 : Int64) : CtL l (dC, dI) cI cT yX2_commonDivisor wd_X2_commonDivisor rm_X2_commonDivisor [.long v0, .long v2] (([] : va_W) ++ pl) (fun (r : Int64) (_ : Unit) => f_X2_commonDivisor v0 v2 = r) (fun _ => ([] : va_W) ++ pl) 0 0 := by
  refine ct_l (cc := cX2_commonDivisor) (maxL := 11) (by decide) rfl (Nat.le_of_ble_eq_true rfl) ?_
  intro p e s m args below meth c A ls Q hx hb hml hts hown hmn hA hK hNS hP hD hS hl hret
  have ht : ∀ w ∈ wsL_law, w.before args s = true := fun w h => hts w (List.mem_cons_of_mem _ h)
  have hl : lv_has ls 11 [(0, .long v0), (2, .long v2)] := hl
  generalize hF : f_X2_commonDivisor v0 v2 = F at hret
  unfold f_X2_commonDivisor at hF
  have K_9 : ∀ (n_9 : Nat) (v4 : Int64) (v6 : Int64) (v8 : Int32) (H : Heap) (locs : List Loc) (ls : Array Slot), (0 ≤ v8.toInt) → ((200 : Int) - v8.toInt).toNat < n_9 → lv_has ls 11 [(4, .long v4), (6, .long v6), (8, .int v8)] → va_P (dC, dI) vwCl (([] : va_W) ++ pl) H → va_D A (([] : va_W) ++ pl) → va_S A s.heap H locs → f_X2_commonDivisor_L9 n_9 v4 v6 v8 = F → W p l e rm_X2_commonDivisor s m args below meth c H locs 0 0 Q (F0 m 9 ls []) := by
    intro n_9
    induction n_9 with
    | zero => intro v4 v6 v8 H locs ls hinv_9 hms; exact absurd hms (Nat.not_lt_zero _)
    | succ n_9 ih_9 =>
      intro v4 v6 v8 H locs ls hinv_9 hms_9 hl hP hD hS hF
      rw [f_X2_commonDivisor_L9] at hF
      refine lv_iload hx hb dX2_commonDivisor_9 (lv_at hl 2 rfl) ?_
      refine lv_sipush (v := (200 : Int32)) hx hb dX2_commonDivisor_11 (by decide) ?_
      refine lv_icmp_ge (tgt := 45) hx hb dX2_commonDivisor_14 (by decide) (fun c14 => ?_) (fun c14 => ?_)
      · rw [if_pos c14] at hF
        refine lv_lload hx hb dX2_commonDivisor_45 (lv_at hl 0 rfl) ?_
        exact hret v4 () _ _ _ _ hF.symm hP hD hS dX2_commonDivisor_47
      · rw [if_neg c14] at hF
        refine lv_lload hx hb dX2_commonDivisor_17 (lv_at hl 1 rfl) ?_
        refine lv_lconst (v := (0 : Int64)) hx hb dX2_commonDivisor_19 (by decide) ?_
        refine W.lcmp hx hb dX2_commonDivisor_20 ?_
        refine lv_if_eq (tgt := 45) hx hb dX2_commonDivisor_21 (by decide) (fun c21 => ?_) (fun c21 => ?_)
        · rw [if_pos c21] at hF
          refine lv_lload hx hb dX2_commonDivisor_45 (lv_at hl 0 rfl) ?_
          exact hret v4 () _ _ _ _ hF.symm hP hD hS dX2_commonDivisor_47
        · rw [if_neg c21] at hF
          refine lv_lload hx hb dX2_commonDivisor_24 (lv_at hl 0 rfl) ?_
          refine lv_lload hx hb dX2_commonDivisor_26 (lv_at hl 1 rfl) ?_
          refine lv_lrem hx hb dX2_commonDivisor_28 (lcmp_ne c21) ?_
          refine lv_lstore (lv' := [(9, .long (v4 - v4 / v6 * v6)), (4, .long v4), (6, .long v6), (8, .int v8)]) hx hb dX2_commonDivisor_29 hl (by decide) rfl (fun ls hl => ?_)
          refine lv_lload hx hb dX2_commonDivisor_31 (lv_at hl 2 rfl) ?_
          refine lv_lstore (lv' := [(4, .long v6), (9, .long (v4 - v4 / v6 * v6)), (6, .long v6), (8, .int v8)]) hx hb dX2_commonDivisor_33 hl (by decide) rfl (fun ls hl => ?_)
          refine lv_lload hx hb dX2_commonDivisor_35 (lv_at hl 1 rfl) ?_
          refine lv_lstore (lv' := [(6, .long (v4 - v4 / v6 * v6)), (4, .long v6), (9, .long (v4 - v4 / v6 * v6)), (8, .int v8)]) hx hb dX2_commonDivisor_37 hl (by decide) rfl (fun ls hl => ?_)
          refine lv_iinc (v := (v8 + (1 : Int32))) (lv' := [(8, .int (v8 + (1 : Int32))), (6, .long (v4 - v4 / v6 * v6)), (4, .long v6), (9, .long (v4 - v4 / v6 * v6))]) hx hb dX2_commonDivisor_39 hl (k := 3) rfl (by rfl) (by decide) rfl (fun ls hl => ?_)
          refine lv_goto (tgt := 9) hx hb dX2_commonDivisor_42 (by decide) ?_
          exact ih_9 v6 (v4 - v4 / v6 * v6) (v8 + (1 : Int32)) _ _ _ (by have zl_0 : (0 : Int32).toInt = 0 := (by decide); have zl_1 : (1 : Int32).toInt = 1 := (by decide); have zl_2 : (200 : Int32).toInt = 200 := (by decide); have q_c14 := mt Int32.le_iff_toInt_le.mpr c14; have i_c14 := inc_nle c14; have q_c21 : ¬ Int32.toInt (lg_cmp v6 (0 : Int64)) = Int32.toInt (0 : Int32) := fun h => c21 (Int32.toInt_inj.mp h); omega) (by have zl_0 : (0 : Int32).toInt = 0 := (by decide); have zl_1 : (1 : Int32).toInt = 1 := (by decide); have zl_2 : (200 : Int32).toInt = 200 := (by decide); have q_c14 := mt Int32.le_iff_toInt_le.mpr c14; have i_c14 := inc_nle c14; have q_c21 : ¬ Int32.toInt (lg_cmp v6 (0 : Int64)) = Int32.toInt (0 : Int32) := fun h => c21 (Int32.toInt_inj.mp h); omega) (lv_sub hl [2, 1, 0] rfl) hP hD hS hF
  refine lv_lload_n hx hb dX2_commonDivisor_0 rfl (lv_at hl 1 rfl) ?_
  refine lv_lstore (lv' := [(4, .long v2), (0, .long v0), (2, .long v2)]) hx hb dX2_commonDivisor_1 hl (by decide) rfl (fun ls hl => ?_)
  refine lv_lload_n hx hb dX2_commonDivisor_3 rfl (lv_at hl 1 rfl) ?_
  refine lv_lstore (lv' := [(6, .long v0), (4, .long v2), (0, .long v0), (2, .long v2)]) hx hb dX2_commonDivisor_4 hl (by decide) rfl (fun ls hl => ?_)
  refine lv_iconst (v := (0 : Int32)) hx hb dX2_commonDivisor_6 (by decide) ?_
  refine lv_istore (lv' := [(8, .int (0 : Int32)), (6, .long v0), (4, .long v2), (0, .long v0), (2, .long v2)]) hx hb dX2_commonDivisor_7 hl (by decide) rfl (fun ls hl => ?_)
  exact K_9 201 v2 v0 (0 : Int32) _ _ _ (by have zl_0 : (0 : Int32).toInt = 0 := (by decide); omega) (by have zl_0 : (0 : Int32).toInt = 0 := (by decide); omega) (lv_sub hl [2, 1, 0] rfl) hP hD hS hF
def f_X2_become (v1 : Int64) (v3 : Int64) : (Int64) × (Int64) := (lt1 (f_X2_commonDivisor v1 v3) (fun r1 => (if (0 : Int32) ≤ (lg_cmp r1 (1 : Int64)) then ((v1 / r1), (v3 / r1)) else ((0 : Int64), (1 : Int64)))))
abbrev rm_X2_become : Room := { frames := 1, cells := 0, slots := 0, locals := 30 }
noncomputable abbrev wd_X2_become : List Cond := .code yX2_become cX2_become 7 none :: wsL_law
set_option maxHeartbeats 4000000 in
set_option maxRecDepth 100000 in
theorem c_X2_become (l : Launch) (dC : Nat → ClassId) (dI : Nat → Nat → Nat) (cI cT : ClassId) (oL : Nat) (oa : Int64) (ob : Int64) (LP : List Nat) (tk tf th : Nat → Int32) (v1 : Int64) (v3 : Int64) : CtV l (dC, dI) cI cT yX2_become wd_X2_become rm_X2_become [.ref oL, .long v1, .long v3] (W_odds cI cT oL oa ob ++ va_pl LP (tg tk tf th)) (fun (u : (Int64) × (Int64)) => f_X2_become v1 v3 = u) (fun u => W_odds cI cT oL u.1 u.2 ++ va_pl LP (tg tk tf th)) 0 0 := by
  refine ct_v (cc := cX2_become) (maxL := 7) (by decide) rfl (Nat.le_of_ble_eq_true rfl) ?_
  intro p e s m args below meth c A ls Q hx hb hml hts hown hmn hA hK hNS hP hD hS hl hret
  have ht : ∀ w ∈ wsL_law, w.before args s = true := fun w h => hts w (List.mem_cons_of_mem _ h)
  have hl : lv_has ls 7 [(0, .ref oL), (1, .long v1), (3, .long v3)] := hl
  generalize hF : f_X2_become v1 v3 = F at hret
  unfold f_X2_become at hF
  refine lv_lload_n hx hb dX2_become_0 rfl (lv_at hl 1 rfl) ?_
  refine lv_lload_n hx hb dX2_become_1 rfl (lv_at hl 2 rfl) ?_
  refine kc0_l (rx := fun (_ : Unit) => ([] : va_W)) (pl1 := fun _ => va_pl LP (tg tk tf th)) (wr := [(oL, .inr (2, [.long oa, .long ob]))]) (fun (_ : Unit) => W_odds cI cT oL oa ob) (va_runS (As := [.long v1, .long v3]) (rest := []) ⟨hx, hb, hml, hown, ht⟩ (c_X2_commonDivisor l dC dI cI cT (va_pl LP (tg tk tf th)) v1 v3 _) (cwS 2 ht (gS wm_485 wm_486 wm_29 wm_487) rfl rfl rfl dv_X2_commonDivisor ⟨Nat.le_of_ble_eq_true rfl, Nat.le_of_ble_eq_true rfl⟩) (preS hK hNS (hP.part [] rfl) (hD.part [] (by decide) rfl)) rfl rfl hl.1 rfl (lv_room (Nat.le_of_ble_eq_true rfl)) dX2_become_2 ⟨Nat.le_of_ble_eq_true rfl, Nat.le_of_ble_eq_true rfl⟩) hP hD hS hA [] [0] [0] rfl rfl (by decide) (by decide) (by decide) (fun _ => rfl) (fun r1 _ H locs e1 hP hD hS => ?_)
  rw [e1, lt1_def] at hF
  have hP : va_P (dC, dI) vwCl (W_odds cI cT oL oa ob ++ va_pl LP (tg tk tf th)) H := hP
  have hD : va_D A (W_odds cI cT oL oa ob ++ va_pl LP (tg tk tf th)) := hD
  refine lv_lstore (lv' := [(5, .long r1), (0, .ref oL), (1, .long v1), (3, .long v3)]) hx hb dX2_become_5 hl (by decide) rfl (fun ls hl => ?_)
  refine lv_aload_n hx hb dX2_become_7 rfl (lv_at hl 1 rfl) ?_
  refine lv_lload hx hb dX2_become_8 (lv_at hl 0 rfl) ?_
  refine lv_lconst (v := (1 : Int64)) hx hb dX2_become_10 (by decide) ?_
  refine W.lcmp hx hb dX2_become_11 ?_
  refine lv_if_ge (tgt := 19) hx hb dX2_become_12 (by decide) (fun c12 => ?_) (fun c12 => ?_)
  · rw [if_pos c12] at hF
    refine lv_lload_n hx hb dX2_become_19 rfl (lv_at hl 2 rfl) ?_
    refine lv_lload hx hb dX2_become_20 (lv_at hl 0 rfl) ?_
    refine lv_ldiv hx hb dX2_become_22 (lcmp_ge1 c12) ?_
    refine pf_X2_0 (v := .long (v1 / r1)) hx hb ht hown hK hP hD hS 0 rfl (ht _ wm_63) rfl rfl (Nat.le_of_ble_eq_true rfl) dX2_become_23 (fun H locs hP hD hS => ?_)
    have hP : va_P (dC, dI) vwCl (W_odds cI cT oL (v1 / r1) ob ++ va_pl LP (tg tk tf th)) H := hP
    have hD : va_D A (W_odds cI cT oL (v1 / r1) ob ++ va_pl LP (tg tk tf th)) := hD
    refine lv_aload_n hx hb dX2_become_26 rfl (lv_at hl 1 rfl) ?_
    refine lv_lload hx hb dX2_become_27 (lv_at hl 0 rfl) ?_
    refine lv_lconst (v := (1 : Int64)) hx hb dX2_become_29 (by decide) ?_
    refine W.lcmp hx hb dX2_become_30 ?_
    refine lv_if_ge (tgt := 38) hx hb dX2_become_31 (by decide) (fun _ => ?_) (fun c31 => absurd c12 c31)
    refine lv_lload_n hx hb dX2_become_38 rfl (lv_at hl 3 rfl) ?_
    refine lv_lload hx hb dX2_become_39 (lv_at hl 0 rfl) ?_
    refine lv_ldiv hx hb dX2_become_41 (lcmp_ge1 c12) ?_
    refine pf_X2_1 (v := .long (v3 / r1)) hx hb ht hown hK hP hD hS 0 rfl (ht _ wm_64) rfl rfl (Nat.le_of_ble_eq_true rfl) dX2_become_42 (fun H locs hP hD hS => ?_)
    have hP : va_P (dC, dI) vwCl (W_odds cI cT oL (v1 / r1) (v3 / r1) ++ va_pl LP (tg tk tf th)) H := hP
    have hD : va_D A (W_odds cI cT oL (v1 / r1) (v3 / r1) ++ va_pl LP (tg tk tf th)) := hD
    exact hret ((v1 / r1), (v3 / r1)) _ _ _ _ hF.symm hP hD hS dX2_become_45
  · rw [if_neg c12] at hF
    refine lv_lconst (v := (0 : Int64)) hx hb dX2_become_15 (by decide) ?_
    refine lv_goto (tgt := 23) hx hb dX2_become_16 (by decide) ?_
    refine pf_X2_0 (v := .long (0 : Int64)) hx hb ht hown hK hP hD hS 0 rfl (ht _ wm_63) rfl rfl (Nat.le_of_ble_eq_true rfl) dX2_become_23 (fun H locs hP hD hS => ?_)
    have hP : va_P (dC, dI) vwCl (W_odds cI cT oL (0 : Int64) ob ++ va_pl LP (tg tk tf th)) H := hP
    have hD : va_D A (W_odds cI cT oL (0 : Int64) ob ++ va_pl LP (tg tk tf th)) := hD
    refine lv_aload_n hx hb dX2_become_26 rfl (lv_at hl 1 rfl) ?_
    refine lv_lload hx hb dX2_become_27 (lv_at hl 0 rfl) ?_
    refine lv_lconst (v := (1 : Int64)) hx hb dX2_become_29 (by decide) ?_
    refine W.lcmp hx hb dX2_become_30 ?_
    refine lv_if_ge (tgt := 38) hx hb dX2_become_31 (by decide) (fun c31 => absurd c31 c12) (fun _ => ?_)
    refine lv_lconst (v := (1 : Int64)) hx hb dX2_become_34 (by decide) ?_
    refine lv_goto (tgt := 42) hx hb dX2_become_35 (by decide) ?_
    refine pf_X2_1 (v := .long (1 : Int64)) hx hb ht hown hK hP hD hS 0 rfl (ht _ wm_64) rfl rfl (Nat.le_of_ble_eq_true rfl) dX2_become_42 (fun H locs hP hD hS => ?_)
    have hP : va_P (dC, dI) vwCl (W_odds cI cT oL (0 : Int64) (1 : Int64) ++ va_pl LP (tg tk tf th)) H := hP
    have hD : va_D A (W_odds cI cT oL (0 : Int64) (1 : Int64) ++ va_pl LP (tg tk tf th)) := hD
    exact hret ((0 : Int64), (1 : Int64)) _ _ _ _ hF.symm hP hD hS dX2_become_45
def f_X2_part (oa : Int64) (ob : Int64) (v1 : Int32) : Int64 := (if v1 = (0 : Int32) then oa else ob)
abbrev rm_X2_part : Room := { frames := 0, cells := 0, slots := 0, locals := 0 }
noncomputable abbrev wd_X2_part : List Cond := .code yX2_part cX2_part 2 (some .long) :: wsL_law
set_option maxHeartbeats 4000000 in
set_option maxRecDepth 100000 in
theorem c_X2_part (l : Launch) (dC : Nat → ClassId) (dI : Nat → Nat → Nat) (cI cT : ClassId) (oL : Nat) (oa : Int64) (ob : Int64) (LP : List Nat) (tk tf th : Nat → Int32) (v1 : Int32) : CtL l (dC, dI) cI cT yX2_part wd_X2_part rm_X2_part [.ref oL, .int v1] (W_odds cI cT oL oa ob ++ va_pl LP (tg tk tf th)) (fun (r : Int64) (_ : Unit) => f_X2_part oa ob v1 = r) (fun _ => W_odds cI cT oL oa ob ++ va_pl LP (tg tk tf th)) 0 0 := by
  refine ct_l (cc := cX2_part) (maxL := 2) (by decide) rfl (Nat.le_of_ble_eq_true rfl) ?_
  intro p e s m args below meth c A ls Q hx hb hml hts hown hmn hA hK hNS hP hD hS hl hret
  have ht : ∀ w ∈ wsL_law, w.before args s = true := fun w h => hts w (List.mem_cons_of_mem _ h)
  have hl : lv_has ls 2 [(0, .ref oL), (1, .int v1)] := hl
  generalize hF : f_X2_part oa ob v1 = F at hret
  unfold f_X2_part at hF
  refine lv_iload_n hx hb dX2_part_0 rfl (lv_at hl 1 rfl) ?_
  refine lv_if_ne (tgt := 11) hx hb dX2_part_1 (by decide) (fun c1 => ?_) (fun c1 => ?_)
  · rw [if_neg c1] at hF
    refine lv_aload_n hx hb dX2_part_11 rfl (lv_at hl 0 rfl) ?_
    refine gf_X2_1 (v := .long ob) hx hb ht hown hK hP 0 rfl (ht _ wm_64) rfl dX2_part_12 ?_
    exact hret ob () _ _ _ _ hF.symm hP hD hS dX2_part_15
  · rw [if_pos c1] at hF
    refine lv_aload_n hx hb dX2_part_4 rfl (lv_at hl 0 rfl) ?_
    refine gf_X2_0 (v := .long oa) hx hb ht hown hK hP 0 rfl (ht _ wm_63) rfl dX2_part_5 ?_
    refine lv_goto (tgt := 15) hx hb dX2_part_8 (by decide) ?_
    exact hret oa () _ _ _ _ hF.symm hP hD hS dX2_part_15
