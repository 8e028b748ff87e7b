def f_X1_add (lz : Int32) (ls_ : Nat → Int32) (v1 : Int32) : (Int32) × (Nat → Int32) := (if lz < (0 : Int32) then (lz, ls_) else (if (80 : Int32) ≤ lz then (lz, ls_) else ((lz + (1 : Int32)), (upd ls_ (Int32.toNatClampNeg lz) v1))))
abbrev rm_X1_add : Room := { frames := 0, cells := 0, slots := 0, locals := 0 }
noncomputable abbrev wd_X1_add : List Cond := .code yX1_add cX1_add 2 none :: wsL_law
set_option maxHeartbeats 4000000 in
set_option maxRecDepth 100000 in
theorem c_X1_add (l : Launch) (dC : Nat → ClassId) (dI : Nat → Nat → Nat) (cI cT : ClassId) (gL : Nat) (gS : Nat) (lz : Int32) (lq : Int32) (ls_ : Nat → Int32) (LP : List Nat) (tk tf th : Nat → Int32) (v1 : Int32) : CtV l (dC, dI) cI cT yX1_add wd_X1_add rm_X1_add [.ref gL, .int v1] (W_letters cI cT gL gS lz lq ls_ ++ va_pl LP (tg tk tf th)) (fun (u : (Int32) × (Nat → Int32)) => f_X1_add lz ls_ v1 = u) (fun u => W_letters cI cT gL gS u.1 lq u.2 ++ va_pl LP (tg tk tf th)) 0 0 := by
  refine ct_v (cc := cX1_add) (maxL := 2) (by decide) rfl (Nat.le_of_ble_eq_true rfl) ?_
  intro p e s m args below meth c A ls Q hx hb hml hts hown hmn hA hK hNS hP hD hS hl hret
  have ht : ∀ w ∈ wsL_law, w.before args s = true := fun w h => hts w (List.mem_cons_of_mem _ h)
  have hl : lv_has ls 2 [(0, .ref gL), (1, .int v1)] := hl
  generalize hF : f_X1_add lz ls_ v1 = F at hret
  unfold f_X1_add at hF
  refine lv_aload_n hx hb dX1_add_0 rfl (lv_at hl 0 rfl) ?_
  refine gf_X1_1 (v := .int lz) hx hb ht hown hK hP 0 rfl (ht _ wm_58) rfl dX1_add_1 ?_
  refine lv_if_lt (tgt := 36) hx hb dX1_add_4 (by decide) (fun c4 => ?_) (fun c4 => ?_)
  · rw [if_pos c4] at hF
    exact hret (lz, ls_) _ _ _ _ hF.symm hP hD hS dX1_add_36
  · rw [if_neg c4] at hF
    refine lv_aload_n hx hb dX1_add_7 rfl (lv_at hl 0 rfl) ?_
    refine gf_X1_1 (v := .int lz) hx hb ht hown hK hP 0 rfl (ht _ wm_58) rfl dX1_add_8 ?_
    refine lv_bipush (v := (80 : Int32)) hx hb dX1_add_11 (by decide) ?_
    refine lv_icmp_ge (tgt := 36) hx hb dX1_add_13 (by decide) (fun c13 => ?_) (fun c13 => ?_)
    · rw [if_pos c13] at hF
      exact hret (lz, ls_) _ _ _ _ hF.symm hP hD hS dX1_add_36
    · rw [if_neg c13] at hF
      refine lv_aload_n hx hb dX1_add_16 rfl (lv_at hl 0 rfl) ?_
      refine gf_X1_0 (v := .ref gS) hx hb ht hown hK hP 0 rfl (ht _ wm_57) rfl dX1_add_17 ?_
      refine lv_aload_n hx hb dX1_add_20 rfl (lv_at hl 0 rfl) ?_
      refine gf_X1_1 (v := .int lz) hx hb ht hown hK hP 0 rfl (ht _ wm_58) rfl dX1_add_21 ?_
      refine lv_iload_n hx hb dX1_add_24 rfl (lv_at hl 1 rfl) ?_
      refine va_iast hx hb hK hP hD hS 1 0 rfl rfl (vp_of (by have zl_0 : (0 : Int32).toInt = 0 := (by decide); have zl_1 : (80 : Int32).toInt = 80 := (by decide); have q_c4 := mt Int32.lt_iff_toInt_lt.mpr c4; have q_c13 := mt Int32.le_iff_toInt_le.mpr c13; have i_c13 := inc_nle c13; omega)) dX1_add_25 (fun H locs hP hD hS => ?_)
      have hP : va_P (dC, dI) vwCl (W_letters cI cT gL gS lz lq (upd ls_ (Int32.toNatClampNeg lz) v1) ++ va_pl LP (tg tk tf th)) H := hP
      have hD : va_D A (W_letters cI cT gL gS lz lq (upd ls_ (Int32.toNatClampNeg lz) v1) ++ va_pl LP (tg tk tf th)) := hD
      refine lv_aload_n hx hb dX1_add_26 rfl (lv_at hl 0 rfl) ?_
      refine lv_dup hx hb dX1_add_27 rfl ?_
      refine gf_X1_1 (v := .int lz) hx hb ht hown hK hP 0 rfl (ht _ wm_58) rfl dX1_add_28 ?_
      refine lv_iconst (v := (1 : Int32)) hx hb dX1_add_31 (by decide) ?_
      refine lv_iadd hx hb dX1_add_32 ?_
      refine pf_X1_1 (v := .int (lz + (1 : Int32))) hx hb ht hown hK hP hD hS 0 rfl (ht _ wm_58) rfl rfl (Nat.le_of_ble_eq_true rfl) dX1_add_33 (fun H locs hP hD hS => ?_)
      have hP : va_P (dC, dI) vwCl (W_letters cI cT gL gS (lz + (1 : Int32)) lq (upd ls_ (Int32.toNatClampNeg lz) v1) ++ va_pl LP (tg tk tf th)) H := hP
      have hD : va_D A (W_letters cI cT gL gS (lz + (1 : Int32)) lq (upd ls_ (Int32.toNatClampNeg lz) v1) ++ va_pl LP (tg tk tf th)) := hD
      exact hret ((lz + (1 : Int32)), (upd ls_ (Int32.toNatClampNeg lz) v1)) _ _ _ _ hF.symm hP hD hS dX1_add_36
def f_X1_here (lz : Int32) (lq : Int32) (ls_ : Nat → Int32) : Int32 := (if lq < (0 : Int32) then (-1 : Int32) else (if lz ≤ lq then (-1 : Int32) else (if (80 : Int32) ≤ lq then (-1 : Int32) else (ls_ (Int32.toNatClampNeg lq)))))
abbrev rm_X1_here : Room := { frames := 0, cells := 0, slots := 0, locals := 0 }
noncomputable abbrev wd_X1_here : List Cond := .code yX1_here cX1_here 1 (some .int) :: wsL_law
set_option maxHeartbeats 4000000 in
set_option maxRecDepth 100000 in
theorem c_X1_here (l : Launch) (dC : Nat → ClassId) (dI : Nat → Nat → Nat) (cI cT : ClassId) (gL : Nat) (gS : Nat) (lz : Int32) (lq : Int32) (ls_ : Nat → Int32) (LP : List Nat) (tk tf th : Nat → Int32) : CtI l (dC, dI) cI cT yX1_here wd_X1_here rm_X1_here [.ref gL] (W_letters cI cT gL gS lz lq ls_ ++ va_pl LP (tg tk tf th)) (fun (r : Int32) (_ : Unit) => f_X1_here lz lq ls_ = r) (fun _ => W_letters cI cT gL gS lz lq ls_ ++ va_pl LP (tg tk tf th)) 0 0 := by
  refine ct_i (cc := cX1_here) (maxL := 1) (by decide) rfl (Nat.le_of_ble_eq_true rfl) ?_
  intro p e s m args below meth c A ls Q hx hb hml hts hown hmn hA hK hNS hP hD hS hl hret
  have ht : ∀ w ∈ wsL_law, w.before args s = true := fun w h => hts w (List.mem_cons_of_mem _ h)
  have hl : lv_has ls 1 [(0, .ref gL)] := hl
  generalize hF : f_X1_here lz lq ls_ = F at hret
  unfold f_X1_here at hF
  refine lv_aload_n hx hb dX1_here_0 rfl (lv_at hl 0 rfl) ?_
  refine gf_X1_2 (v := .int lq) hx hb ht hown hK hP 0 rfl (ht _ wm_59) rfl dX1_here_1 ?_
  refine lv_if_lt (tgt := 39) hx hb dX1_here_4 (by decide) (fun c4 => ?_) (fun c4 => ?_)
  · rw [if_pos c4] at hF
    refine lv_iconst (v := (-1 : Int32)) hx hb dX1_here_39 (by decide) ?_
    exact hret (-1 : Int32) () _ _ _ _ hF.symm rfl hP hD hS dX1_here_40
  · rw [if_neg c4] at hF
    refine lv_aload_n hx hb dX1_here_7 rfl (lv_at hl 0 rfl) ?_
    refine gf_X1_2 (v := .int lq) hx hb ht hown hK hP 0 rfl (ht _ wm_59) rfl dX1_here_8 ?_
    refine lv_aload_n hx hb dX1_here_11 rfl (lv_at hl 0 rfl) ?_
    refine gf_X1_1 (v := .int lz) hx hb ht hown hK hP 0 rfl (ht _ wm_58) rfl dX1_here_12 ?_
    refine lv_icmp_ge (tgt := 39) hx hb dX1_here_15 (by decide) (fun c15 => ?_) (fun c15 => ?_)
    · rw [if_pos c15] at hF
      refine lv_iconst (v := (-1 : Int32)) hx hb dX1_here_39 (by decide) ?_
      exact hret (-1 : Int32) () _ _ _ _ hF.symm rfl hP hD hS dX1_here_40
    · rw [if_neg c15] at hF
      refine lv_aload_n hx hb dX1_here_18 rfl (lv_at hl 0 rfl) ?_
      refine gf_X1_2 (v := .int lq) hx hb ht hown hK hP 0 rfl (ht _ wm_59) rfl dX1_here_19 ?_
      refine lv_bipush (v := (80 : Int32)) hx hb dX1_here_22 (by decide) ?_
      refine lv_icmp_ge (tgt := 39) hx hb dX1_here_24 (by decide) (fun c24 => ?_) (fun c24 => ?_)
      · rw [if_pos c24] at hF
        refine lv_iconst (v := (-1 : Int32)) hx hb dX1_here_39 (by decide) ?_
        exact hret (-1 : Int32) () _ _ _ _ hF.symm rfl hP hD hS dX1_here_40
      · rw [if_neg c24] at hF
        refine lv_aload_n hx hb dX1_here_27 rfl (lv_at hl 0 rfl) ?_
        refine gf_X1_0 (v := .ref gS) hx hb ht hown hK hP 0 rfl (ht _ wm_57) rfl dX1_here_28 ?_
        refine lv_aload_n hx hb dX1_here_31 rfl (lv_at hl 0 rfl) ?_
        refine gf_X1_2 (v := .int lq) hx hb ht hown hK hP 0 rfl (ht _ wm_59) rfl dX1_here_32 ?_
        refine va_iald hx hb hK hP 1 0 rfl rfl (vp_of (by have zl_0 : (0 : Int32).toInt = 0 := (by decide); have zl_1 : (80 : Int32).toInt = 80 := (by decide); have q_c4 := mt Int32.lt_iff_toInt_lt.mpr c4; have q_c15 := mt Int32.le_iff_toInt_le.mpr c15; have i_c15 := inc_nle c15; have q_c24 := mt Int32.le_iff_toInt_le.mpr c24; have i_c24 := inc_nle c24; omega)) dX1_here_35 ?_
        refine lv_goto (tgt := 40) hx hb dX1_here_36 (by decide) ?_
        exact hret (ls_ (Int32.toNatClampNeg lq)) () _ _ _ _ hF.symm rfl hP hD hS dX1_here_40
def f_X1_take (lz : Int32) (lq : Int32) (ls_ : Nat → Int32) : Int32 × (Int32) := (lt1 (f_X1_here lz lq ls_) (fun r1 => (r1, (lq + (1 : Int32)))))
abbrev rm_X1_take : Room := { frames := 1, cells := 0, slots := 0, locals := 20 }
noncomputable abbrev wd_X1_take : List Cond := .code yX1_take cX1_take 2 (some .int) :: wsL_law
set_option maxHeartbeats 4000000 in
set_option maxRecDepth 100000 in
theorem c_X1_take (l : Launch) (dC : Nat → ClassId) (dI : Nat → Nat → Nat) (cI cT : ClassId) (gL : Nat) (gS : Nat) (lz : Int32) (lq : Int32) (ls_ : Nat → Int32) (LP : List Nat) (tk tf th : Nat → Int32) : CtI l (dC, dI) cI cT yX1_take wd_X1_take rm_X1_take [.ref gL] (W_letters cI cT gL gS lz lq ls_ ++ va_pl LP (tg tk tf th)) (fun (r : Int32) (u : (Int32)) => f_X1_take lz lq ls_ = (r, u)) (fun u => W_letters cI cT gL gS lz u ls_ ++ va_pl LP (tg tk tf th)) 0 0 := by
  refine ct_i (cc := cX1_take) (maxL := 2) (by decide) rfl (Nat.le_of_ble_eq_true rfl) ?_
  intro p e s m args below meth c A ls Q hx hb hml hts hown hmn hA hK hNS hP hD hS hl hret
  have ht : ∀ w ∈ wsL_law, w.before args s = true := fun w h => hts w (List.mem_cons_of_mem _ h)
  have hl : lv_has ls 2 [(0, .ref gL)] := hl
  generalize hF : f_X1_take lz lq ls_ = F at hret
  unfold f_X1_take at hF
  refine lv_aload_n hx hb dX1_take_0 rfl (lv_at hl 0 rfl) ?_
  refine kcF_i (rx := fun (_ : Unit) => W_letters cI cT gL gS lz lq ls_) (pl1 := fun _ => va_pl LP (tg tk tf th)) (va_runV (As := []) (rest := []) ⟨hx, hb, hml, hown, ht⟩ (c_X1_here l dC dI cI cT gL gS lz lq ls_ LP tk tf th _) (cwV 0 ht (gV wm_119 wm_120 wm_121 wm_21 wm_122) rfl rfl rfl dv_X1_here ⟨Nat.le_of_ble_eq_true rfl, Nat.le_of_ble_eq_true rfl⟩) (preV hK hNS hP hD (va_recv hK hP (ci := 1) (q0 := 0) rfl rfl)) rfl rfl hl.1 rfl (lv_room (Nat.le_of_ble_eq_true rfl)) dX1_take_1 ⟨Nat.le_of_ble_eq_true rfl, Nat.le_of_ble_eq_true rfl⟩) hP hD hS hA (fun r1 _ H locs e1 hP hD hS => ?_)
  rw [e1, lt1_def] at hF
  have hP : va_P (dC, dI) vwCl (W_letters cI cT gL gS lz lq ls_ ++ va_pl LP (tg tk tf th)) H := hP
  have hD : va_D A (W_letters cI cT gL gS lz lq ls_ ++ va_pl LP (tg tk tf th)) := hD
  refine lv_istore_n (lv' := [(1, .int r1), (0, .ref gL)]) hx hb dX1_take_4 rfl hl (by decide) rfl (fun ls hl => ?_)
  refine lv_aload_n hx hb dX1_take_5 rfl (lv_at hl 1 rfl) ?_
  refine lv_dup hx hb dX1_take_6 rfl ?_
  refine gf_X1_2 (v := .int lq) hx hb ht hown hK hP 0 rfl (ht _ wm_59) rfl dX1_take_7 ?_
  refine lv_iconst (v := (1 : Int32)) hx hb dX1_take_10 (by decide) ?_
  refine lv_iadd hx hb dX1_take_11 ?_
  refine pf_X1_2 (v := .int (lq + (1 : Int32))) hx hb ht hown hK hP hD hS 0 rfl (ht _ wm_59) rfl rfl (Nat.le_of_ble_eq_true rfl) dX1_take_12 (fun H locs hP hD hS => ?_)
  have hP : va_P (dC, dI) vwCl (W_letters cI cT gL gS lz (lq + (1 : Int32)) ls_ ++ va_pl LP (tg tk tf th)) H := hP
  have hD : va_D A (W_letters cI cT gL gS lz (lq + (1 : Int32)) ls_ ++ va_pl LP (tg tk tf th)) := hD
  refine lv_iload_n hx hb dX1_take_15 rfl (lv_at hl 0 rfl) ?_
  exact hret r1 (lq + (1 : Int32)) _ _ _ _ hF.symm rfl hP hD hS dX1_take_16
def f_X1_isDigitHere (lz : Int32) (lq : Int32) (ls_ : Nat → Int32) : Int32 := (lt1 (f_X1_here lz lq ls_) (fun r1 => (if r1 < (48 : Int32) then (0 : Int32) else (lt1 (f_X1_here lz lq ls_) (fun r1 => (if (57 : Int32) < r1 then (0 : Int32) else (1 : Int32)))))))
abbrev rm_X1_isDigitHere : Room := { frames := 1, cells := 0, slots := 0, locals := 20 }
noncomputable abbrev wd_X1_isDigitHere : List Cond := .code yX1_isDigitHere cX1_isDigitHere 1 (some .boolean) :: wsL_law
set_option maxHeartbeats 4000000 in
set_option maxRecDepth 100000 in
theorem c_X1_isDigitHere (l : Launch) (dC : Nat → ClassId) (dI : Nat → Nat → Nat) (cI cT : ClassId) (gL : Nat) (gS : Nat) (lz : Int32) (lq : Int32) (ls_ : Nat → Int32) (LP : List Nat) (tk tf th : Nat → Int32) : CtI l (dC, dI) cI cT yX1_isDigitHere wd_X1_isDigitHere rm_X1_isDigitHere [.ref gL] (W_letters cI cT gL gS lz lq ls_ ++ va_pl LP (tg tk tf th)) (fun (r : Int32) (_ : Unit) => f_X1_isDigitHere lz lq ls_ = r ∧ (r = 0 ∨ r = 1)) (fun _ => W_letters cI cT gL gS lz lq ls_ ++ va_pl LP (tg tk tf th)) 0 0 := by
  refine ct_i (cc := cX1_isDigitHere) (maxL := 1) (by decide) rfl (Nat.le_of_ble_eq_true rfl) ?_
  intro p e s m args below meth c A ls Q hx hb hml hts hown hmn hA hK hNS hP hD hS hl hret
  have ht : ∀ w ∈ wsL_law, w.before args s = true := fun w h => hts w (List.mem_cons_of_mem _ h)
  have hl : lv_has ls 1 [(0, .ref gL)] := hl
  generalize hF : f_X1_isDigitHere lz lq ls_ = F at hret
  unfold f_X1_isDigitHere at hF
  refine lv_aload_n hx hb dX1_isDigitHere_0 rfl (lv_at hl 0 rfl) ?_
  refine kcF_i (rx := fun (_ : Unit) => W_letters cI cT gL gS lz lq ls_) (pl1 := fun _ => va_pl LP (tg tk tf th)) (va_runV (As := []) (rest := []) ⟨hx, hb, hml, hown, ht⟩ (c_X1_here l dC dI cI cT gL gS lz lq ls_ LP tk tf th _) (cwV 0 ht (gV wm_119 wm_120 wm_121 wm_21 wm_122) rfl rfl rfl dv_X1_here ⟨Nat.le_of_ble_eq_true rfl, Nat.le_of_ble_eq_true rfl⟩) (preV hK hNS hP hD (va_recv hK hP (ci := 1) (q0 := 0) rfl rfl)) rfl rfl hl.1 rfl (lv_room (Nat.le_of_ble_eq_true rfl)) dX1_isDigitHere_1 ⟨Nat.le_of_ble_eq_true rfl, Nat.le_of_ble_eq_true rfl⟩) hP hD hS hA (fun r1 _ H locs e1 hP hD hS => ?_)
  rw [e1, lt1_def] at hF
  have hP : va_P (dC, dI) vwCl (W_letters cI cT gL gS lz lq ls_ ++ va_pl LP (tg tk tf th)) H := hP
  have hD : va_D A (W_letters cI cT gL gS lz lq ls_ ++ va_pl LP (tg tk tf th)) := hD
  refine lv_bipush (v := (48 : Int32)) hx hb dX1_isDigitHere_4 (by decide) ?_
  refine lv_icmp_lt (tgt := 22) hx hb dX1_isDigitHere_6 (by decide) (fun c6 => ?_) (fun c6 => ?_)
  · rw [if_pos c6] at hF
    refine lv_iconst (v := (0 : Int32)) hx hb dX1_isDigitHere_22 (by decide) ?_
    exact hret (0 : Int32) () _ _ _ _ ⟨hF.symm, (Or.inl rfl)⟩ (nb (Or.inl rfl)) hP hD hS dX1_isDigitHere_23
  · rw [if_neg c6] at hF
    refine lv_aload_n hx hb dX1_isDigitHere_9 rfl (lv_at hl 0 rfl) ?_
    refine kcF_i (rx := fun (_ : Unit) => W_letters cI cT gL gS lz lq ls_) (pl1 := fun _ => va_pl LP (tg tk tf th)) (va_runV (As := []) (rest := []) ⟨hx, hb, hml, hown, ht⟩ (c_X1_here l dC dI cI cT gL gS lz lq ls_ LP tk tf th _) (cwV 0 ht (gV wm_119 wm_120 wm_121 wm_21 wm_122) rfl rfl rfl dv_X1_here ⟨Nat.le_of_ble_eq_true rfl, Nat.le_of_ble_eq_true rfl⟩) (preV hK hNS hP hD (va_recv hK hP (ci := 1) (q0 := 0) rfl rfl)) rfl rfl hl.1 rfl (lv_room (Nat.le_of_ble_eq_true rfl)) dX1_isDigitHere_10 ⟨Nat.le_of_ble_eq_true rfl, Nat.le_of_ble_eq_true rfl⟩) hP hD hS hA (fun r2 _ H locs e2 hP hD hS => ?_)
    have hz := e1.symm.trans e2
    subst hz
    rw [lt1_def] at hF
    have hP : va_P (dC, dI) vwCl (W_letters cI cT gL gS lz lq ls_ ++ va_pl LP (tg tk tf th)) H := hP
    have hD : va_D A (W_letters cI cT gL gS lz lq ls_ ++ va_pl LP (tg tk tf th)) := hD
    refine lv_bipush (v := (57 : Int32)) hx hb dX1_isDigitHere_13 (by decide) ?_
    refine lv_icmp_gt (tgt := 22) hx hb dX1_isDigitHere_15 (by decide) (fun c15 => ?_) (fun c15 => ?_)
    · rw [if_pos c15] at hF
      refine lv_iconst (v := (0 : Int32)) hx hb dX1_isDigitHere_22 (by decide) ?_
      exact hret (0 : Int32) () _ _ _ _ ⟨hF.symm, (Or.inl rfl)⟩ (nb (Or.inl rfl)) hP hD hS dX1_isDigitHere_23
    · rw [if_neg c15] at hF
      refine lv_iconst (v := (1 : Int32)) hx hb dX1_isDigitHere_18 (by decide) ?_
      refine lv_goto (tgt := 23) hx hb dX1_isDigitHere_19 (by decide) ?_
      exact hret (1 : Int32) () _ _ _ _ ⟨hF.symm, (Or.inr rfl)⟩ (nb (Or.inr rfl)) hP hD hS dX1_isDigitHere_23
def f_X1_takeDigit (lz : Int32) (lq : Int32) (ls_ : Nat → Int32) : Int32 × (Int32) := (lt2 (f_X1_take lz lq ls_) (fun r1 u1 => ((r1 - (48 : Int32)), u1)))
abbrev rm_X1_takeDigit : Room := { frames := 2, cells := 0, slots := 0, locals := 41 }
noncomputable abbrev wd_X1_takeDigit : List Cond := .code yX1_takeDigit cX1_takeDigit 1 (some .int) :: wsL_law
set_option maxHeartbeats 4000000 in
set_option maxRecDepth 100000 in
theorem c_X1_takeDigit (l : Launch) (dC : Nat → ClassId) (dI : Nat → Nat → Nat) (cI cT : ClassId) (gL : Nat) (gS : Nat) (lz : Int32) (lq : Int32) (ls_ : Nat → Int32) (LP : List Nat) (tk tf th : Nat → Int32) : CtI l (dC, dI) cI cT yX1_takeDigit wd_X1_takeDigit rm_X1_takeDigit [.ref gL] (W_letters cI cT gL gS lz lq ls_ ++ va_pl LP (tg tk tf th)) (fun (r : Int32) (u : (Int32)) => f_X1_takeDigit lz lq ls_ = (r, u)) (fun u => W_letters cI cT gL gS lz u ls_ ++ va_pl LP (tg tk tf th)) 0 0 := by
  refine ct_i (cc := cX1_takeDigit) (maxL := 1) (by decide) rfl (Nat.le_of_ble_eq_true rfl) ?_
  intro p e s m args below meth c A ls Q hx hb hml hts hown hmn hA hK hNS hP hD hS hl hret
  have ht : ∀ w ∈ wsL_law, w.before args s = true := fun w h => hts w (List.mem_cons_of_mem _ h)
  have hl : lv_has ls 1 [(0, .ref gL)] := hl
  generalize hF : f_X1_takeDigit lz lq ls_ = F at hret
  unfold f_X1_takeDigit at hF
  refine lv_aload_n hx hb dX1_takeDigit_0 rfl (lv_at hl 0 rfl) ?_
  refine kcF_i (rx := fun (u : (Int32)) => W_letters cI cT gL gS lz u ls_) (pl1 := fun _ => va_pl LP (tg tk tf th)) (va_runV (As := []) (rest := []) ⟨hx, hb, hml, hown, ht⟩ (c_X1_take l dC dI cI cT gL gS lz lq ls_ LP tk tf th _) (cwV 0 ht (gV wm_197 wm_198 wm_199 wm_21 wm_200) rfl rfl rfl dv_X1_take ⟨Nat.le_of_ble_eq_true rfl, Nat.le_of_ble_eq_true rfl⟩) (preV hK hNS hP hD (va_recv hK hP (ci := 1) (q0 := 0) rfl rfl)) rfl rfl hl.1 rfl (lv_room (Nat.le_of_ble_eq_true rfl)) dX1_takeDigit_1 ⟨Nat.le_of_ble_eq_true rfl, Nat.le_of_ble_eq_true rfl⟩) hP hD hS hA (fun r1 u1 H locs e1 hP hD hS => ?_)
  rw [e1, lt2_def] at hF
  have hP : va_P (dC, dI) vwCl (W_letters cI cT gL gS lz u1 ls_ ++ va_pl LP (tg tk tf th)) H := hP
  have hD : va_D A (W_letters cI cT gL gS lz u1 ls_ ++ va_pl LP (tg tk tf th)) := hD
  refine lv_bipush (v := (48 : Int32)) hx hb dX1_takeDigit_4 (by decide) ?_
  refine lv_isub hx hb dX1_takeDigit_6 ?_
  exact hret (r1 - (48 : Int32)) u1 _ _ _ _ hF.symm rfl hP hD hS dX1_takeDigit_7
def f_X1_takeNumber (lz : Int32) (lq : Int32) (ls_ : Nat → Int32) : Int32 × (Int32) := (lt2 (f_X1_takeDigit lz lq ls_) (fun r1 u1 => (lt1 (f_X1_isDigitHere lz u1 ls_) (fun r2 => (if r2 = (0 : Int32) then (r1, u1) else (lt2 (f_X1_takeDigit lz u1 ls_) (fun r3 u3 => ((((10 : Int32) * r1) + r3), u3))))))))
abbrev rm_X1_takeNumber : Room := { frames := 3, cells := 0, slots := 0, locals := 61 }
noncomputable abbrev wd_X1_takeNumber : List Cond := .code yX1_takeNumber cX1_takeNumber 2 (some .int) :: wsL_law
set_option maxHeartbeats 4000000 in
set_option maxRecDepth 100000 in
theorem c_X1_takeNumber (l : Launch) (dC : Nat → ClassId) (dI : Nat → Nat → Nat) (cI cT : ClassId) (gL : Nat) (gS : Nat) (lz : Int32) (lq : Int32) (ls_ : Nat → Int32) (LP : List Nat) (tk tf th : Nat → Int32) : CtI l (dC, dI) cI cT yX1_takeNumber wd_X1_takeNumber rm_X1_takeNumber [.ref gL] (W_letters cI cT gL gS lz lq ls_ ++ va_pl LP (tg tk tf th)) (fun (r : Int32) (u : (Int32)) => f_X1_takeNumber lz lq ls_ = (r, u)) (fun u => W_letters cI cT gL gS lz u ls_ ++ va_pl LP (tg tk tf th)) 0 0 := by
  refine ct_i (cc := cX1_takeNumber) (maxL := 2) (by decide) rfl (Nat.le_of_ble_eq_true rfl) ?_
  intro p e s m args below meth c A ls Q hx hb hml hts hown hmn hA hK hNS hP hD hS hl hret
  have ht : ∀ w ∈ wsL_law, w.before args s = true := fun w h => hts w (List.mem_cons_of_mem _ h)
  have hl : lv_has ls 2 [(0, .ref gL)] := hl
  generalize hF : f_X1_takeNumber lz lq ls_ = F at hret
  unfold f_X1_takeNumber at hF
  refine lv_aload_n hx hb dX1_takeNumber_0 rfl (lv_at hl 0 rfl) ?_
  refine kcF_i (rx := fun (u : (Int32)) => W_letters cI cT gL gS lz u ls_) (pl1 := fun _ => va_pl LP (tg tk tf th)) (va_runV (As := []) (rest := []) ⟨hx, hb, hml, hown, ht⟩ (c_X1_takeDigit l dC dI cI cT gL gS lz lq ls_ LP tk tf th _) (cwV 0 ht (gV wm_205 wm_206 wm_207 wm_21 wm_208) rfl rfl rfl dv_X1_takeDigit ⟨Nat.le_of_ble_eq_true rfl, Nat.le_of_ble_eq_true rfl⟩) (preV hK hNS hP hD (va_recv hK hP (ci := 1) (q0 := 0) rfl rfl)) rfl rfl hl.1 rfl (lv_room (Nat.le_of_ble_eq_true rfl)) dX1_takeNumber_1 ⟨Nat.le_of_ble_eq_true rfl, Nat.le_of_ble_eq_true rfl⟩) hP hD hS hA (fun r1 u1 H locs e1 hP hD hS => ?_)
  rw [e1, lt2_def] at hF
  have hP : va_P (dC, dI) vwCl (W_letters cI cT gL gS lz u1 ls_ ++ va_pl LP (tg tk tf th)) H := hP
  have hD : va_D A (W_letters cI cT gL gS lz u1 ls_ ++ va_pl LP (tg tk tf th)) := hD
  refine lv_istore_n (lv' := [(1, .int r1), (0, .ref gL)]) hx hb dX1_takeNumber_4 rfl hl (by decide) rfl (fun ls hl => ?_)
  refine lv_aload_n hx hb dX1_takeNumber_5 rfl (lv_at hl 1 rfl) ?_
  refine kcF_i (rx := fun (_ : Unit) => W_letters cI cT gL gS lz u1 ls_) (pl1 := fun _ => va_pl LP (tg tk tf th)) (va_runV (As := []) (rest := []) ⟨hx, hb, hml, hown, ht⟩ (c_X1_isDigitHere l dC dI cI cT gL gS lz u1 ls_ LP tk tf th _) (cwV 0 ht (gV wm_187 wm_188 wm_189 wm_21 wm_190) rfl rfl rfl dv_X1_isDigitHere ⟨Nat.le_of_ble_eq_true rfl, Nat.le_of_ble_eq_true rfl⟩) (preV hK hNS hP hD (va_recv hK hP (ci := 1) (q0 := 0) rfl rfl)) rfl rfl hl.1 rfl (lv_room (Nat.le_of_ble_eq_true rfl)) dX1_takeNumber_6 ⟨Nat.le_of_ble_eq_true rfl, Nat.le_of_ble_eq_true rfl⟩) hP hD hS hA (fun r2 _ H locs e2 hP hD hS => ?_)
  obtain ⟨e2, ze2⟩ := e2
  rw [e2, lt1_def] at hF
  have hP : va_P (dC, dI) vwCl (W_letters cI cT gL gS lz u1 ls_ ++ va_pl LP (tg tk tf th)) H := hP
  have hD : va_D A (W_letters cI cT gL gS lz u1 ls_ ++ va_pl LP (tg tk tf th)) := hD
  refine lv_if_eq (tgt := 24) hx hb dX1_takeNumber_9 (by decide) (fun c9 => ?_) (fun c9 => ?_)
  · rw [if_pos c9] at hF
    refine lv_iload_n hx hb dX1_takeNumber_24 rfl (lv_at hl 0 rfl) ?_
    exact hret r1 u1 _ _ _ _ hF.symm rfl hP hD hS dX1_takeNumber_25
  · rw [if_neg c9] at hF
    refine lv_bipush (v := (10 : Int32)) hx hb dX1_takeNumber_12 (by decide) ?_
    refine lv_iload_n hx hb dX1_takeNumber_14 rfl (lv_at hl 0 rfl) ?_
    refine lv_imul hx hb dX1_takeNumber_15 ?_
    refine lv_aload_n hx hb dX1_takeNumber_16 rfl (lv_at hl 1 rfl) ?_
    refine kcF_i (rx := fun (u : (Int32)) => W_letters cI cT gL gS lz u ls_) (pl1 := fun _ => va_pl LP (tg tk tf th)) (va_runV (As := []) (rest := [.int ((10 : Int32) * r1)]) ⟨hx, hb, hml, hown, ht⟩ (c_X1_takeDigit l dC dI cI cT gL gS lz u1 ls_ LP tk tf th _) (cwV 0 ht (gV wm_205 wm_206 wm_207 wm_21 wm_208) rfl rfl rfl dv_X1_takeDigit ⟨Nat.le_of_ble_eq_true rfl, Nat.le_of_ble_eq_true rfl⟩) (preV hK hNS hP hD (va_recv hK hP (ci := 1) (q0 := 0) rfl rfl)) rfl rfl hl.1 rfl (lv_room (Nat.le_of_ble_eq_true rfl)) dX1_takeNumber_17 ⟨Nat.le_of_ble_eq_true rfl, Nat.le_of_ble_eq_true rfl⟩) hP hD hS hA (fun r3 u3 H locs e3 hP hD hS => ?_)
    rw [e3, lt2_def] at hF
    have hP : va_P (dC, dI) vwCl (W_letters cI cT gL gS lz u3 ls_ ++ va_pl LP (tg tk tf th)) H := hP
    have hD : va_D A (W_letters cI cT gL gS lz u3 ls_ ++ va_pl LP (tg tk tf th)) := hD
    refine lv_iadd hx hb dX1_takeNumber_20 ?_
    refine lv_goto (tgt := 25) hx hb dX1_takeNumber_21 (by decide) ?_
    exact hret (((10 : Int32) * r1) + r3) u3 _ _ _ _ hF.symm rfl hP hD hS dX1_takeNumber_25
def f_X1_takeSigned (lz : Int32) (lq : Int32) (ls_ : Nat → Int32) : Int32 × (Int32) := (lt2 (f_X1_take lz lq ls_) (fun r1 u1 => (if r1 = (45 : Int32) then (lt2 (f_X1_takeDigit lz u1 ls_) (fun r3 u3 => (((-1 : Int32) * r3), u3))) else (lt2 (f_X1_takeDigit lz u1 ls_) (fun r2 u2 => (((1 : Int32) * r2), u2))))))
abbrev rm_X1_takeSigned : Room := { frames := 3, cells := 0, slots := 0, locals := 61 }
noncomputable abbrev wd_X1_takeSigned : List Cond := .code yX1_takeSigned cX1_takeSigned 2 (some .int) :: wsL_law
set_option maxHeartbeats 4000000 in
set_option maxRecDepth 100000 in
theorem c_X1_takeSigned (l : Launch) (dC : Nat → ClassId) (dI : Nat → Nat → Nat) (cI cT : ClassId) (gL : Nat) (gS : Nat) (lz : Int32) (lq : Int32) (ls_ : Nat → Int32) (LP : List Nat) (tk tf th : Nat → Int32) : CtI l (dC, dI) cI cT yX1_takeSigned wd_X1_takeSigned rm_X1_takeSigned [.ref gL] (W_letters cI cT gL gS lz lq ls_ ++ va_pl LP (tg tk tf th)) (fun (r : Int32) (u : (Int32)) => f_X1_takeSigned lz lq ls_ = (r, u)) (fun u => W_letters cI cT gL gS lz u ls_ ++ va_pl LP (tg tk tf th)) 0 0 := by
  refine ct_i (cc := cX1_takeSigned) (maxL := 2) (by decide) rfl (Nat.le_of_ble_eq_true rfl) ?_
  intro p e s m args below meth c A ls Q hx hb hml hts hown hmn hA hK hNS hP hD hS hl hret
  have ht : ∀ w ∈ wsL_law, w.before args s = true := fun w h => hts w (List.mem_cons_of_mem _ h)
  have hl : lv_has ls 2 [(0, .ref gL)] := hl
  generalize hF : f_X1_takeSigned lz lq ls_ = F at hret
  unfold f_X1_takeSigned at hF
  refine lv_aload_n hx hb dX1_takeSigned_0 rfl (lv_at hl 0 rfl) ?_
  refine kcF_i (rx := fun (u : (Int32)) => W_letters cI cT gL gS lz u ls_) (pl1 := fun _ => va_pl LP (tg tk tf th)) (va_runV (As := []) (rest := []) ⟨hx, hb, hml, hown, ht⟩ (c_X1_take l dC dI cI cT gL gS lz lq ls_ LP tk tf th _) (cwV 0 ht (gV wm_197 wm_198 wm_199 wm_21 wm_200) rfl rfl rfl dv_X1_take ⟨Nat.le_of_ble_eq_true rfl, Nat.le_of_ble_eq_true rfl⟩) (preV hK hNS hP hD (va_recv hK hP (ci := 1) (q0 := 0) rfl rfl)) rfl rfl hl.1 rfl (lv_room (Nat.le_of_ble_eq_true rfl)) dX1_takeSigned_1 ⟨Nat.le_of_ble_eq_true rfl, Nat.le_of_ble_eq_true rfl⟩) hP hD hS hA (fun r1 u1 H locs e1 hP hD hS => ?_)
  rw [e1, lt2_def] at hF
  have hP : va_P (dC, dI) vwCl (W_letters cI cT gL gS lz u1 ls_ ++ va_pl LP (tg tk tf th)) H := hP
  have hD : va_D A (W_letters cI cT gL gS lz u1 ls_ ++ va_pl LP (tg tk tf th)) := hD
  refine lv_bipush (v := (45 : Int32)) hx hb dX1_takeSigned_4 (by decide) ?_
  refine lv_icmp_ne (tgt := 13) hx hb dX1_takeSigned_6 (by decide) (fun c6 => ?_) (fun c6 => ?_)
  · rw [if_neg c6] at hF
    refine lv_iconst (v := (1 : Int32)) hx hb dX1_takeSigned_13 (by decide) ?_
    refine lv_istore_n (lv' := [(1, .int (1 : Int32)), (0, .ref gL)]) hx hb dX1_takeSigned_14 rfl hl (by decide) rfl (fun ls hl => ?_)
    refine lv_iload_n hx hb dX1_takeSigned_15 rfl (lv_at hl 0 rfl) ?_
    refine lv_aload_n hx hb dX1_takeSigned_16 rfl (lv_at hl 1 rfl) ?_
    refine kcF_i (rx := fun (u : (Int32)) => W_letters cI cT gL gS lz u ls_) (pl1 := fun _ => va_pl LP (tg tk tf th)) (va_runV (As := []) (rest := [.int (1 : Int32)]) ⟨hx, hb, hml, hown, ht⟩ (c_X1_takeDigit l dC dI cI cT gL gS lz u1 ls_ LP tk tf th _) (cwV 0 ht (gV wm_205 wm_206 wm_207 wm_21 wm_208) rfl rfl rfl dv_X1_takeDigit ⟨Nat.le_of_ble_eq_true rfl, Nat.le_of_ble_eq_true rfl⟩) (preV hK hNS hP hD (va_recv hK hP (ci := 1) (q0 := 0) rfl rfl)) rfl rfl hl.1 rfl (lv_room (Nat.le_of_ble_eq_true rfl)) dX1_takeSigned_17 ⟨Nat.le_of_ble_eq_true rfl, Nat.le_of_ble_eq_true rfl⟩) hP hD hS hA (fun r2 u2 H locs e2 hP hD hS => ?_)
    rw [e2, lt2_def] at hF
    have hP : va_P (dC, dI) vwCl (W_letters cI cT gL gS lz u2 ls_ ++ va_pl LP (tg tk tf th)) H := hP
    have hD : va_D A (W_letters cI cT gL gS lz u2 ls_ ++ va_pl LP (tg tk tf th)) := hD
    refine lv_imul hx hb dX1_takeSigned_20 ?_
    exact hret ((1 : Int32) * r2) u2 _ _ _ _ hF.symm rfl hP hD hS dX1_takeSigned_21
  · rw [if_pos c6] at hF
    refine lv_iconst (v := (-1 : Int32)) hx hb dX1_takeSigned_9 (by decide) ?_
    refine lv_goto (tgt := 14) hx hb dX1_takeSigned_10 (by decide) ?_
    refine lv_istore_n (lv' := [(1, .int (-1 : Int32)), (0, .ref gL)]) hx hb dX1_takeSigned_14 rfl hl (by decide) rfl (fun ls hl => ?_)
    refine lv_iload_n hx hb dX1_takeSigned_15 rfl (lv_at hl 0 rfl) ?_
    refine lv_aload_n hx hb dX1_takeSigned_16 rfl (lv_at hl 1 rfl) ?_
    refine kcF_i (rx := fun (u : (Int32)) => W_letters cI cT gL gS lz u ls_) (pl1 := fun _ => va_pl LP (tg tk tf th)) (va_runV (As := []) (rest := [.int (-1 : Int32)]) ⟨hx, hb, hml, hown, ht⟩ (c_X1_takeDigit l dC dI cI cT gL gS lz u1 ls_ LP tk tf th _) (cwV 0 ht (gV wm_205 wm_206 wm_207 wm_21 wm_208) rfl rfl rfl dv_X1_takeDigit ⟨Nat.le_of_ble_eq_true rfl, Nat.le_of_ble_eq_true rfl⟩) (preV hK hNS hP hD (va_recv hK hP (ci := 1) (q0 := 0) rfl rfl)) rfl rfl hl.1 rfl (lv_room (Nat.le_of_ble_eq_true rfl)) dX1_takeSigned_17 ⟨Nat.le_of_ble_eq_true rfl, Nat.le_of_ble_eq_true rfl⟩) hP hD hS hA (fun r3 u3 H locs e3 hP hD hS => ?_)
    rw [e3, lt2_def] at hF
    have hP : va_P (dC, dI) vwCl (W_letters cI cT gL gS lz u3 ls_ ++ va_pl LP (tg tk tf th)) H := hP
    have hD : va_D A (W_letters cI cT gL gS lz u3 ls_ ++ va_pl LP (tg tk tf th)) := hD
    refine lv_imul hx hb dX1_takeSigned_20 ?_
    exact hret ((-1 : Int32) * r3) u3 _ _ _ _ hF.symm rfl hP hD hS dX1_takeSigned_21
def f_X1_fits (lz : Int32) (lq : Int32) (ls_ : Nat → Int32) (v1 : Int32) : Int32 := (if v1 = (43 : Int32) then (lt1 (f_X1_here lz lq ls_) (fun r2 => (if r2 = (43 : Int32) then (1 : Int32) else (lt1 (f_X1_here lz lq ls_) (fun r2 => (if r2 = (45 : Int32) then (1 : Int32) else (0 : Int32))))))) else (if v1 = (57 : Int32) then (lt1 (f_X1_isDigitHere lz lq ls_) (fun r5 => r5)) else (if v1 = (63 : Int32) then (lt1 (f_X1_isDigitHere lz lq ls_) (fun r7 => r7)) else (lt1 (f_X1_here lz lq ls_) (fun r8 => (if r8 = v1 then (1 : Int32) else (0 : Int32)))))))
abbrev rm_X1_fits : Room := { frames := 2, cells := 0, slots := 0, locals := 40 }
noncomputable abbrev wd_X1_fits : List Cond := .code yX1_fits cX1_fits 2 (some .boolean) :: wsL_law
set_option maxHeartbeats 4000000 in
set_option maxRecDepth 100000 in
theorem c_X1_fits (l : Launch) (dC : Nat → ClassId) (dI : Nat → Nat → Nat) (cI cT : ClassId) (gL : Nat) (gS : Nat) (lz : Int32) (lq : Int32) (ls_ : Nat → Int32) (LP : List Nat) (tk tf th : Nat → Int32) (v1 : Int32) : CtI l (dC, dI) cI cT yX1_fits wd_X1_fits rm_X1_fits [.ref gL, .int v1] (W_letters cI cT gL gS lz lq ls_ ++ va_pl LP (tg tk tf th)) (fun (r : Int32) (_ : Unit) => f_X1_fits lz lq ls_ v1 = r ∧ (r = 0 ∨ r = 1)) (fun _ => W_letters cI cT gL gS lz lq ls_ ++ va_pl LP (tg tk tf th)) 0 0 := by
  refine ct_i (cc := cX1_fits) (maxL := 2) (by decide) rfl (Nat.le_of_ble_eq_true rfl) ?_
  intro p e s m args below meth c A ls Q hx hb hml hts hown hmn hA hK hNS hP hD hS hl hret
  have ht : ∀ w ∈ wsL_law, w.before args s = true := fun w h => hts w (List.mem_cons_of_mem _ h)
  have hl : lv_has ls 2 [(0, .ref gL), (1, .int v1)] := hl
  generalize hF : f_X1_fits lz lq ls_ v1 = F at hret
  unfold f_X1_fits at hF
  refine lv_iload_n hx hb dX1_fits_0 rfl (lv_at hl 1 rfl) ?_
  by_cases w1 : v1 = (43 : Int32)
  · rw [if_pos w1] at hF
    refine lv_lookup (off := 40) (tgt := 41) hx hb dX1_fits_1 (by decide) (by rw [w1]; first | done | rfl) (by decide) ?_
    refine lv_aload_n hx hb dX1_fits_41 rfl (lv_at hl 0 rfl) ?_
    refine kcF_i (rx := fun (_ : Unit) => W_letters cI cT gL gS lz lq ls_) (pl1 := fun _ => va_pl LP (tg tk tf th)) (va_runV (As := []) (rest := []) ⟨hx, hb, hml, hown, ht⟩ (c_X1_here l dC dI cI cT gL gS lz lq ls_ LP tk tf th _) (cwV 0 ht (gV wm_119 wm_120 wm_121 wm_21 wm_122) rfl rfl rfl dv_X1_here ⟨Nat.le_of_ble_eq_true rfl, Nat.le_of_ble_eq_true rfl⟩) (preV hK hNS hP hD (va_recv hK hP (ci := 1) (q0 := 0) rfl rfl)) rfl rfl hl.1 rfl (lv_room (Nat.le_of_ble_eq_true rfl)) dX1_fits_42 ⟨Nat.le_of_ble_eq_true rfl, Nat.le_of_ble_eq_true rfl⟩) hP hD hS hA (fun r2 _ H locs e2 hP hD hS => ?_)
    rw [e2, lt1_def] at hF
    have hP : va_P (dC, dI) vwCl (W_letters cI cT gL gS lz lq ls_ ++ va_pl LP (tg tk tf th)) H := hP
    have hD : va_D A (W_letters cI cT gL gS lz lq ls_ ++ va_pl LP (tg tk tf th)) := hD
    refine lv_bipush (v := (43 : Int32)) hx hb dX1_fits_45 (by decide) ?_
    refine lv_icmp_eq (tgt := 59) hx hb dX1_fits_47 (by decide) (fun c47 => ?_) (fun c47 => ?_)
    · rw [if_pos c47] at hF
      refine lv_iconst (v := (1 : Int32)) hx hb dX1_fits_59 (by decide) ?_
      refine lv_goto (tgt := 64) hx hb dX1_fits_60 (by decide) ?_
      exact hret (1 : Int32) () _ _ _ _ ⟨hF.symm, (Or.inr rfl)⟩ (nb (Or.inr rfl)) hP hD hS dX1_fits_64
    · rw [if_neg c47] at hF
      refine lv_aload_n hx hb dX1_fits_50 rfl (lv_at hl 0 rfl) ?_
      refine kcF_i (rx := fun (_ : Unit) => W_letters cI cT gL gS lz lq ls_) (pl1 := fun _ => va_pl LP (tg tk tf th)) (va_runV (As := []) (rest := []) ⟨hx, hb, hml, hown, ht⟩ (c_X1_here l dC dI cI cT gL gS lz lq ls_ LP tk tf th _) (cwV 0 ht (gV wm_119 wm_120 wm_121 wm_21 wm_122) rfl rfl rfl dv_X1_here ⟨Nat.le_of_ble_eq_true rfl, Nat.le_of_ble_eq_true rfl⟩) (preV hK hNS hP hD (va_recv hK hP (ci := 1) (q0 := 0) rfl rfl)) rfl rfl hl.1 rfl (lv_room (Nat.le_of_ble_eq_true rfl)) dX1_fits_51 ⟨Nat.le_of_ble_eq_true rfl, Nat.le_of_ble_eq_true rfl⟩) hP hD hS hA (fun r3 _ H locs e3 hP hD hS => ?_)
      have hz := e2.symm.trans e3
      subst hz
      rw [lt1_def] at hF
      have hP : va_P (dC, dI) vwCl (W_letters cI cT gL gS lz lq ls_ ++ va_pl LP (tg tk tf th)) H := hP
      have hD : va_D A (W_letters cI cT gL gS lz lq ls_ ++ va_pl LP (tg tk tf th)) := hD
      refine lv_bipush (v := (45 : Int32)) hx hb dX1_fits_54 (by decide) ?_
      refine lv_icmp_ne (tgt := 63) hx hb dX1_fits_56 (by decide) (fun c56 => ?_) (fun c56 => ?_)
      · rw [if_neg c56] at hF
        refine lv_iconst (v := (0 : Int32)) hx hb dX1_fits_63 (by decide) ?_
        exact hret (0 : Int32) () _ _ _ _ ⟨hF.symm, (Or.inl rfl)⟩ (nb (Or.inl rfl)) hP hD hS dX1_fits_64
      · rw [if_pos c56] at hF
        refine lv_iconst (v := (1 : Int32)) hx hb dX1_fits_59 (by decide) ?_
        refine lv_goto (tgt := 64) hx hb dX1_fits_60 (by decide) ?_
        exact hret (1 : Int32) () _ _ _ _ ⟨hF.symm, (Or.inr rfl)⟩ (nb (Or.inr rfl)) hP hD hS dX1_fits_64
  · rw [if_neg w1] at hF
    by_cases w4 : v1 = (57 : Int32)
    · rw [if_pos w4] at hF
      refine lv_lookup (off := 35) (tgt := 36) hx hb dX1_fits_1 (by decide) (by rw [w4]; first | done | rfl) (by decide) ?_
      refine lv_aload_n hx hb dX1_fits_36 rfl (lv_at hl 0 rfl) ?_
      refine kcF_i (rx := fun (_ : Unit) => W_letters cI cT gL gS lz lq ls_) (pl1 := fun _ => va_pl LP (tg tk tf th)) (va_runV (As := []) (rest := []) ⟨hx, hb, hml, hown, ht⟩ (c_X1_isDigitHere l dC dI cI cT gL gS lz lq ls_ LP tk tf th _) (cwV 0 ht (gV wm_187 wm_188 wm_189 wm_21 wm_190) rfl rfl rfl dv_X1_isDigitHere ⟨Nat.le_of_ble_eq_true rfl, Nat.le_of_ble_eq_true rfl⟩) (preV hK hNS hP hD (va_recv hK hP (ci := 1) (q0 := 0) rfl rfl)) rfl rfl hl.1 rfl (lv_room (Nat.le_of_ble_eq_true rfl)) dX1_fits_37 ⟨Nat.le_of_ble_eq_true rfl, Nat.le_of_ble_eq_true rfl⟩) hP hD hS hA (fun r5 _ H locs e5 hP hD hS => ?_)
      obtain ⟨e5, ze5⟩ := e5
      rw [e5, lt1_def] at hF
      have hP : va_P (dC, dI) vwCl (W_letters cI cT gL gS lz lq ls_ ++ va_pl LP (tg tk tf th)) H := hP
      have hD : va_D A (W_letters cI cT gL gS lz lq ls_ ++ va_pl LP (tg tk tf th)) := hD
      exact hret r5 () _ _ _ _ ⟨hF.symm, ze5⟩ (nb ze5) hP hD hS dX1_fits_40
    · rw [if_neg w4] at hF
      by_cases w6 : v1 = (63 : Int32)
      · rw [if_pos w6] at hF
        refine lv_lookup (off := 35) (tgt := 36) hx hb dX1_fits_1 (by decide) (by rw [w6]; first | done | rfl) (by decide) ?_
        refine lv_aload_n hx hb dX1_fits_36 rfl (lv_at hl 0 rfl) ?_
        refine kcF_i (rx := fun (_ : Unit) => W_letters cI cT gL gS lz lq ls_) (pl1 := fun _ => va_pl LP (tg tk tf th)) (va_runV (As := []) (rest := []) ⟨hx, hb, hml, hown, ht⟩ (c_X1_isDigitHere l dC dI cI cT gL gS lz lq ls_ LP tk tf th _) (cwV 0 ht (gV wm_187 wm_188 wm_189 wm_21 wm_190) rfl rfl rfl dv_X1_isDigitHere ⟨Nat.le_of_ble_eq_true rfl, Nat.le_of_ble_eq_true rfl⟩) (preV hK hNS hP hD (va_recv hK hP (ci := 1) (q0 := 0) rfl rfl)) rfl rfl hl.1 rfl (lv_room (Nat.le_of_ble_eq_true rfl)) dX1_fits_37 ⟨Nat.le_of_ble_eq_true rfl, Nat.le_of_ble_eq_true rfl⟩) hP hD hS hA (fun r7 _ H locs e7 hP hD hS => ?_)
        obtain ⟨e7, ze7⟩ := e7
        rw [e7, lt1_def] at hF
        have hP : va_P (dC, dI) vwCl (W_letters cI cT gL gS lz lq ls_ ++ va_pl LP (tg tk tf th)) H := hP
        have hD : va_D A (W_letters cI cT gL gS lz lq ls_ ++ va_pl LP (tg tk tf th)) := hD
        exact hret r7 () _ _ _ _ ⟨hF.symm, ze7⟩ (nb ze7) hP hD hS dX1_fits_40
      · rw [if_neg w6] at hF
        refine lv_lookup (off := 64) (tgt := 65) hx hb dX1_fits_1 (by decide) (by show Op.lookupswitch.offset [(43, 40), (57, 35), (63, 35)] 64 (Int32.toInt v1) = 64; rw [lv_osw (a := 43) w1 rfl, lv_osw (a := 57) w4 rfl, lv_osw (a := 63) w6 rfl]; first | done | rfl) (by decide) ?_
        refine lv_aload_n hx hb dX1_fits_65 rfl (lv_at hl 0 rfl) ?_
        refine kcF_i (rx := fun (_ : Unit) => W_letters cI cT gL gS lz lq ls_) (pl1 := fun _ => va_pl LP (tg tk tf th)) (va_runV (As := []) (rest := []) ⟨hx, hb, hml, hown, ht⟩ (c_X1_here l dC dI cI cT gL gS lz lq ls_ LP tk tf th _) (cwV 0 ht (gV wm_119 wm_120 wm_121 wm_21 wm_122) rfl rfl rfl dv_X1_here ⟨Nat.le_of_ble_eq_true rfl, Nat.le_of_ble_eq_true rfl⟩) (preV hK hNS hP hD (va_recv hK hP (ci := 1) (q0 := 0) rfl rfl)) rfl rfl hl.1 rfl (lv_room (Nat.le_of_ble_eq_true rfl)) dX1_fits_66 ⟨Nat.le_of_ble_eq_true rfl, Nat.le_of_ble_eq_true rfl⟩) hP hD hS hA (fun r8 _ H locs e8 hP hD hS => ?_)
        rw [e8, lt1_def] at hF
        have hP : va_P (dC, dI) vwCl (W_letters cI cT gL gS lz lq ls_ ++ va_pl LP (tg tk tf th)) H := hP
        have hD : va_D A (W_letters cI cT gL gS lz lq ls_ ++ va_pl LP (tg tk tf th)) := hD
        refine lv_iload_n hx hb dX1_fits_69 rfl (lv_at hl 1 rfl) ?_
        refine lv_icmp_ne (tgt := 77) hx hb dX1_fits_70 (by decide) (fun c70 => ?_) (fun c70 => ?_)
        · rw [if_neg c70] at hF
          refine lv_iconst (v := (0 : Int32)) hx hb dX1_fits_77 (by decide) ?_
          exact hret (0 : Int32) () _ _ _ _ ⟨hF.symm, (Or.inl rfl)⟩ (nb (Or.inl rfl)) hP hD hS dX1_fits_78
        · rw [if_pos c70] at hF
          refine lv_iconst (v := (1 : Int32)) hx hb dX1_fits_73 (by decide) ?_
          refine lv_goto (tgt := 78) hx hb dX1_fits_74 (by decide) ?_
          exact hret (1 : Int32) () _ _ _ _ ⟨hF.symm, (Or.inr rfl)⟩ (nb (Or.inr rfl)) hP hD hS dX1_fits_78
