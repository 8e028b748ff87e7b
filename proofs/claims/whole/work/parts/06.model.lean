def f_X5_no (m_refused : Nat → Int32) (v1 : Int32) : Int32 × (Nat → Int32) := (v1, (upd m_refused (Int32.toNatClampNeg (-v1)) ((m_refused (Int32.toNatClampNeg (-v1))) + (1 : Int32))))
abbrev rm_X5_no : Room := { frames := 0, cells := 0, slots := 0, locals := 0 }
noncomputable abbrev wd_X5_no : List Cond := .code yX5_no cX5_no 2 (some .int) :: wsL_law
set_option maxHeartbeats 4000000 in
set_option maxRecDepth 100000 in
theorem c_X5_no (l : Launch) (dC : Nat → ClassId) (dI : Nat → Nat → Nat) (cI cT : ClassId) (zL : Nat) (z_refused : Nat) (z_place : Nat) (z_pace : Nat) (z_skillOf : Nat) (z_tired : Nat) (z_kind : Nat) (z_figure : Nat) (z_height : Nat) (z_tape : Nat) (z_letter : Nat) (z_letterAt : Nat) (z_told : Nat) (z_stored : Nat) (z_row : Nat) (m_yards : Int32) (m_wind : Int32) (m_players : Int32) (m_touches : Int32) (m_holder : Int32) (m_kept : Int32) (m_taped : Int32) (m_at : Int32) (m_statements : Int32) (m_hasImage : Int32) (m_isKeeping : Int32) (m_cursor : Int32) (m_onUp : Int64) (m_onDown : Int64) (m_longMany : Int32) (m_longLeast : Int32) (m_rowMany : Int32) (m_lots : Int32) (m_refused : Nat → Int32) (m_place : Nat → Int32) (m_pace : Nat → Int32) (m_skillOf : Nat → Int32) (m_tired : Nat → Int32) (m_kind : Nat → Int32) (m_figure : Nat → Int32) (m_height : Nat → Int32) (m_tape : Nat → Int32) (m_letter : Nat → Int32) (m_letterAt : Nat → Int32) (m_told : Nat → Int32) (m_stored : Nat → Int32) (m_row : Nat → Int32) (pl : va_W) (v1 : Int32) (h_v1 : vp_in (-v1) 7) : CtI l (dC, dI) cI cT yX5_no wd_X5_no rm_X5_no [.ref zL, .int v1] (W_model cI cT zL z_refused z_place z_pace z_skillOf z_tired z_kind z_figure z_height z_tape z_letter z_letterAt z_told z_stored z_row m_yards m_wind m_players m_touches m_holder m_kept m_taped m_at m_statements m_hasImage m_isKeeping m_cursor m_onUp m_onDown m_longMany m_longLeast m_rowMany m_lots m_refused m_place m_pace m_skillOf m_tired m_kind m_figure m_height m_tape m_letter m_letterAt m_told m_stored m_row ++ pl) (fun (r : Int32) (u : (Nat → Int32)) => f_X5_no m_refused v1 = (r, u)) (fun u => W_model cI cT zL z_refused z_place z_pace z_skillOf z_tired z_kind z_figure z_height z_tape z_letter z_letterAt z_told z_stored z_row m_yards m_wind m_players m_touches m_holder m_kept m_taped m_at m_statements m_hasImage m_isKeeping m_cursor m_onUp m_onDown m_longMany m_longLeast m_rowMany m_lots u m_place m_pace m_skillOf m_tired m_kind m_figure m_height m_tape m_letter m_letterAt m_told m_stored m_row ++ pl) 0 0 := by
  refine ct_i (cc := cX5_no) (maxL := 2) (by decide) rfl (Nat.le_of_ble_eq_true rfl) ?_
  intro p e s m args below meth c A ls Q hx hb hml hts hown hmn hA hK hNS hP hD hS hl hret
  have ht : ∀ w ∈ wsL_law, w.before args s = true := fun w h => hts w (List.mem_cons_of_mem _ h)
  have hl : lv_has ls 2 [(0, .ref zL), (1, .int v1)] := hl
  generalize hF : f_X5_no m_refused v1 = F at hret
  unfold f_X5_no at hF
  refine lv_aload_n hx hb dX5_no_0 rfl (lv_at hl 0 rfl) ?_
  refine gf_X5_0 (v := .ref z_refused) hx hb ht hown hK hP 0 rfl (ht _ wm_69) rfl dX5_no_1 ?_
  refine lv_iload_n hx hb dX5_no_4 rfl (lv_at hl 1 rfl) ?_
  refine lv_ineg hx hb dX5_no_5 ?_
  refine lv_dup2_11 hx hb dX5_no_6 rfl rfl ?_
  refine va_iald hx hb hK hP 1 0 rfl rfl h_v1 dX5_no_7 ?_
  refine lv_iconst (v := (1 : Int32)) hx hb dX5_no_8 (by decide) ?_
  refine lv_iadd hx hb dX5_no_9 ?_
  refine va_iast hx hb hK hP hD hS 1 0 rfl rfl h_v1 dX5_no_10 (fun H locs hP hD hS => ?_)
  have hP : va_P (dC, dI) vwCl (W_model cI cT zL z_refused z_place z_pace z_skillOf z_tired z_kind z_figure z_height z_tape z_letter z_letterAt z_told z_stored z_row m_yards m_wind m_players m_touches m_holder m_kept m_taped m_at m_statements m_hasImage m_isKeeping m_cursor m_onUp m_onDown m_longMany m_longLeast m_rowMany m_lots (upd m_refused (Int32.toNatClampNeg (-v1)) ((m_refused (Int32.toNatClampNeg (-v1))) + (1 : Int32))) m_place m_pace m_skillOf m_tired m_kind m_figure m_height m_tape m_letter m_letterAt m_told m_stored m_row ++ pl) H := hP
  have hD : va_D A (W_model cI cT zL z_refused z_place z_pace z_skillOf z_tired z_kind z_figure z_height z_tape z_letter z_letterAt z_told z_stored z_row m_yards m_wind m_players m_touches m_holder m_kept m_taped m_at m_statements m_hasImage m_isKeeping m_cursor m_onUp m_onDown m_longMany m_longLeast m_rowMany m_lots (upd m_refused (Int32.toNatClampNeg (-v1)) ((m_refused (Int32.toNatClampNeg (-v1))) + (1 : Int32))) m_place m_pace m_skillOf m_tired m_kind m_figure m_height m_tape m_letter m_letterAt m_told m_stored m_row ++ pl) := hD
  refine lv_iload_n hx hb dX5_no_11 rfl (lv_at hl 1 rfl) ?_
  exact hret v1 (upd m_refused (Int32.toNatClampNeg (-v1)) ((m_refused (Int32.toNatClampNeg (-v1))) + (1 : Int32))) _ _ _ _ hF.symm rfl hP hD hS dX5_no_12
def f_X5_lowest (m_refused : Nat → Int32) (v1 : Int32) : Int64 × (Nat → Int32) := (((4000000000000000000 : Int64) - (Int32.toInt64 v1)), (upd m_refused (Int32.toNatClampNeg (-v1)) ((m_refused (Int32.toNatClampNeg (-v1))) + (1 : Int32))))
abbrev rm_X5_lowest : Room := { frames := 0, cells := 0, slots := 0, locals := 0 }
noncomputable abbrev wd_X5_lowest : List Cond := .code yX5_lowest cX5_lowest 2 (some .long) :: wsL_law
set_option maxHeartbeats 4000000 in
set_option maxRecDepth 100000 in
theorem c_X5_lowest (l : Launch) (dC : Nat → ClassId) (dI : Nat → Nat → Nat) (cI cT : ClassId) (zL : Nat) (z_refused : Nat) (z_place : Nat) (z_pace : Nat) (z_skillOf : Nat) (z_tired : Nat) (z_kind : Nat) (z_figure : Nat) (z_height : Nat) (z_tape : Nat) (z_letter : Nat) (z_letterAt : Nat) (z_told : Nat) (z_stored : Nat) (z_row : Nat) (m_yards : Int32) (m_wind : Int32) (m_players : Int32) (m_touches : Int32) (m_holder : Int32) (m_kept : Int32) (m_taped : Int32) (m_at : Int32) (m_statements : Int32) (m_hasImage : Int32) (m_isKeeping : Int32) (m_cursor : Int32) (m_onUp : Int64) (m_onDown : Int64) (m_longMany : Int32) (m_longLeast : Int32) (m_rowMany : Int32) (m_lots : Int32) (m_refused : Nat → Int32) (m_place : Nat → Int32) (m_pace : Nat → Int32) (m_skillOf : Nat → Int32) (m_tired : Nat → Int32) (m_kind : Nat → Int32) (m_figure : Nat → Int32) (m_height : Nat → Int32) (m_tape : Nat → Int32) (m_letter : Nat → Int32) (m_letterAt : Nat → Int32) (m_told : Nat → Int32) (m_stored : Nat → Int32) (m_row : Nat → Int32) (pl : va_W) (v1 : Int32) (h_v1 : vp_in (-v1) 7) : CtL l (dC, dI) cI cT yX5_lowest wd_X5_lowest rm_X5_lowest [.ref zL, .int v1] (W_model cI cT zL z_refused z_place z_pace z_skillOf z_tired z_kind z_figure z_height z_tape z_letter z_letterAt z_told z_stored z_row m_yards m_wind m_players m_touches m_holder m_kept m_taped m_at m_statements m_hasImage m_isKeeping m_cursor m_onUp m_onDown m_longMany m_longLeast m_rowMany m_lots m_refused m_place m_pace m_skillOf m_tired m_kind m_figure m_height m_tape m_letter m_letterAt m_told m_stored m_row ++ pl) (fun (r : Int64) (u : (Nat → Int32)) => f_X5_lowest m_refused v1 = (r, u)) (fun u => W_model cI cT zL z_refused z_place z_pace z_skillOf z_tired z_kind z_figure z_height z_tape z_letter z_letterAt z_told z_stored z_row m_yards m_wind m_players m_touches m_holder m_kept m_taped m_at m_statements m_hasImage m_isKeeping m_cursor m_onUp m_onDown m_longMany m_longLeast m_rowMany m_lots u m_place m_pace m_skillOf m_tired m_kind m_figure m_height m_tape m_letter m_letterAt m_told m_stored m_row ++ pl) 0 0 := by
  refine ct_l (cc := cX5_lowest) (maxL := 2) (by decide) rfl (Nat.le_of_ble_eq_true rfl) ?_
  intro p e s m args below meth c A ls Q hx hb hml hts hown hmn hA hK hNS hP hD hS hl hret
  have ht : ∀ w ∈ wsL_law, w.before args s = true := fun w h => hts w (List.mem_cons_of_mem _ h)
  have hl : lv_has ls 2 [(0, .ref zL), (1, .int v1)] := hl
  generalize hF : f_X5_lowest m_refused v1 = F at hret
  unfold f_X5_lowest at hF
  refine lv_aload_n hx hb dX5_lowest_0 rfl (lv_at hl 0 rfl) ?_
  refine gf_X5_0 (v := .ref z_refused) hx hb ht hown hK hP 0 rfl (ht _ wm_69) rfl dX5_lowest_1 ?_
  refine lv_iload_n hx hb dX5_lowest_4 rfl (lv_at hl 1 rfl) ?_
  refine lv_ineg hx hb dX5_lowest_5 ?_
  refine lv_dup2_11 hx hb dX5_lowest_6 rfl rfl ?_
  refine va_iald hx hb hK hP 1 0 rfl rfl h_v1 dX5_lowest_7 ?_
  refine lv_iconst (v := (1 : Int32)) hx hb dX5_lowest_8 (by decide) ?_
  refine lv_iadd hx hb dX5_lowest_9 ?_
  refine va_iast hx hb hK hP hD hS 1 0 rfl rfl h_v1 dX5_lowest_10 (fun H locs hP hD hS => ?_)
  have hP : va_P (dC, dI) vwCl (W_model cI cT zL z_refused z_place z_pace z_skillOf z_tired z_kind z_figure z_height z_tape z_letter z_letterAt z_told z_stored z_row m_yards m_wind m_players m_touches m_holder m_kept m_taped m_at m_statements m_hasImage m_isKeeping m_cursor m_onUp m_onDown m_longMany m_longLeast m_rowMany m_lots (upd m_refused (Int32.toNatClampNeg (-v1)) ((m_refused (Int32.toNatClampNeg (-v1))) + (1 : Int32))) m_place m_pace m_skillOf m_tired m_kind m_figure m_height m_tape m_letter m_letterAt m_told m_stored m_row ++ pl) H := hP
  have hD : va_D A (W_model cI cT zL z_refused z_place z_pace z_skillOf z_tired z_kind z_figure z_height z_tape z_letter z_letterAt z_told z_stored z_row m_yards m_wind m_players m_touches m_holder m_kept m_taped m_at m_statements m_hasImage m_isKeeping m_cursor m_onUp m_onDown m_longMany m_longLeast m_rowMany m_lots (upd m_refused (Int32.toNatClampNeg (-v1)) ((m_refused (Int32.toNatClampNeg (-v1))) + (1 : Int32))) m_place m_pace m_skillOf m_tired m_kind m_figure m_height m_tape m_letter m_letterAt m_told m_stored m_row ++ pl) := hD
  refine lv_ldc2 (v := (4000000000000000000 : Int64)) hx hb hown (ht _ wm_499) dX5_lowest_11 ?_
  refine lv_iload_n hx hb dX5_lowest_14 rfl (lv_at hl 1 rfl) ?_
  refine lv_i2l (v := (Int32.toInt64 v1)) hx hb dX5_lowest_15 rfl ?_
  refine lv_lsub hx hb dX5_lowest_16 ?_
  exact hret ((4000000000000000000 : Int64) - (Int32.toInt64 v1)) (upd m_refused (Int32.toNatClampNeg (-v1)) ((m_refused (Int32.toNatClampNeg (-v1))) + (1 : Int32))) _ _ _ _ hF.symm hP hD hS dX5_lowest_17
def f_X5_isIn (v0 : Int32) (v1 : Int32) (v2 : Int32) : Int32 := (if v0 < v1 then (0 : Int32) else (if v2 < v0 then (0 : Int32) else (1 : Int32)))
abbrev rm_X5_isIn : Room := { frames := 0, cells := 0, slots := 0, locals := 0 }
noncomputable abbrev wd_X5_isIn : List Cond := .code yX5_isIn cX5_isIn 3 (some .boolean) :: wsL_law
set_option maxHeartbeats 4000000 in
set_option maxRecDepth 100000 in
theorem c_X5_isIn (l : Launch) (dC : Nat → ClassId) (dI : Nat → Nat → Nat) (cI cT : ClassId) (pl : va_W) (v0 : Int32) (v1 : Int32) (v2 : Int32) : CtI l (dC, dI) cI cT yX5_isIn wd_X5_isIn rm_X5_isIn [.int v0, .int v1, .int v2] (([] : va_W) ++ pl) (fun (r : Int32) (_ : Unit) => f_X5_isIn v0 v1 v2 = r ∧ (r = 0 ∨ r = 1)) (fun _ => ([] : va_W) ++ pl) 0 0 := by
  refine ct_i (cc := cX5_isIn) (maxL := 3) (by decide) rfl (Nat.le_of_ble_eq_true rfl) ?_
  intro p e s m args below meth c A ls Q hx hb hml hts hown hmn hA hK hNS hP hD hS hl hret
  have ht : ∀ w ∈ wsL_law, w.before args s = true := fun w h => hts w (List.mem_cons_of_mem _ h)
  have hl : lv_has ls 3 [(0, .int v0), (1, .int v1), (2, .int v2)] := hl
  generalize hF : f_X5_isIn v0 v1 v2 = F at hret
  unfold f_X5_isIn at hF
  refine lv_iload_n hx hb dX5_isIn_0 rfl (lv_at hl 0 rfl) ?_
  refine lv_iload_n hx hb dX5_isIn_1 rfl (lv_at hl 1 rfl) ?_
  refine lv_icmp_lt (tgt := 14) hx hb dX5_isIn_2 (by decide) (fun c2 => ?_) (fun c2 => ?_)
  · rw [if_pos c2] at hF
    refine lv_iconst (v := (0 : Int32)) hx hb dX5_isIn_14 (by decide) ?_
    exact hret (0 : Int32) () _ _ _ _ ⟨hF.symm, (Or.inl rfl)⟩ (nb (Or.inl rfl)) hP hD hS dX5_isIn_15
  · rw [if_neg c2] at hF
    refine lv_iload_n hx hb dX5_isIn_5 rfl (lv_at hl 0 rfl) ?_
    refine lv_iload_n hx hb dX5_isIn_6 rfl (lv_at hl 2 rfl) ?_
    refine lv_icmp_gt (tgt := 14) hx hb dX5_isIn_7 (by decide) (fun c7 => ?_) (fun c7 => ?_)
    · rw [if_pos c7] at hF
      refine lv_iconst (v := (0 : Int32)) hx hb dX5_isIn_14 (by decide) ?_
      exact hret (0 : Int32) () _ _ _ _ ⟨hF.symm, (Or.inl rfl)⟩ (nb (Or.inl rfl)) hP hD hS dX5_isIn_15
    · rw [if_neg c7] at hF
      refine lv_iconst (v := (1 : Int32)) hx hb dX5_isIn_10 (by decide) ?_
      refine lv_goto (tgt := 15) hx hb dX5_isIn_11 (by decide) ?_
      exact hret (1 : Int32) () _ _ _ _ ⟨hF.symm, (Or.inr rfl)⟩ (nb (Or.inr rfl)) hP hD hS dX5_isIn_15
def f_X5_bound (v0 : Int32) (v1 : Int32) (v2 : Int32) : Int32 := (if v1 ≤ v0 then (if v0 ≤ v2 then (0 : Int32) else (-6 : Int32)) else (-4 : Int32))
abbrev rm_X5_bound : Room := { frames := 0, cells := 0, slots := 0, locals := 0 }
noncomputable abbrev wd_X5_bound : List Cond := .code yX5_bound cX5_bound 3 (some .int) :: wsL_law
set_option maxHeartbeats 4000000 in
set_option maxRecDepth 100000 in
theorem c_X5_bound (l : Launch) (dC : Nat → ClassId) (dI : Nat → Nat → Nat) (cI cT : ClassId) (pl : va_W) (v0 : Int32) (v1 : Int32) (v2 : Int32) : CtI l (dC, dI) cI cT yX5_bound wd_X5_bound rm_X5_bound [.int v0, .int v1, .int v2] (([] : va_W) ++ pl) (fun (r : Int32) (_ : Unit) => f_X5_bound v0 v1 v2 = r) (fun _ => ([] : va_W) ++ pl) 0 0 := by
  refine ct_i (cc := cX5_bound) (maxL := 3) (by decide) rfl (Nat.le_of_ble_eq_true rfl) ?_
  intro p e s m args below meth c A ls Q hx hb hml hts hown hmn hA hK hNS hP hD hS hl hret
  have ht : ∀ w ∈ wsL_law, w.before args s = true := fun w h => hts w (List.mem_cons_of_mem _ h)
  have hl : lv_has ls 3 [(0, .int v0), (1, .int v1), (2, .int v2)] := hl
  generalize hF : f_X5_bound v0 v1 v2 = F at hret
  unfold f_X5_bound at hF
  refine lv_iload_n hx hb dX5_bound_0 rfl (lv_at hl 0 rfl) ?_
  refine lv_iload_n hx hb dX5_bound_1 rfl (lv_at hl 1 rfl) ?_
  refine lv_icmp_ge (tgt := 10) hx hb dX5_bound_2 (by decide) (fun c2 => ?_) (fun c2 => ?_)
  · rw [if_pos c2] at hF
    refine lv_iload_n hx hb dX5_bound_10 rfl (lv_at hl 0 rfl) ?_
    refine lv_iload_n hx hb dX5_bound_11 rfl (lv_at hl 2 rfl) ?_
    refine lv_icmp_le (tgt := 20) hx hb dX5_bound_12 (by decide) (fun c12 => ?_) (fun c12 => ?_)
    · rw [if_pos c12] at hF
      refine lv_iconst (v := (0 : Int32)) hx hb dX5_bound_20 (by decide) ?_
      exact hret (0 : Int32) () _ _ _ _ hF.symm rfl hP hD hS dX5_bound_21
    · rw [if_neg c12] at hF
      refine lv_bipush (v := (-6 : Int32)) hx hb dX5_bound_15 (by decide) ?_
      refine lv_goto (tgt := 21) hx hb dX5_bound_17 (by decide) ?_
      exact hret (-6 : Int32) () _ _ _ _ hF.symm rfl hP hD hS dX5_bound_21
  · rw [if_neg c2] at hF
    refine lv_bipush (v := (-4 : Int32)) hx hb dX5_bound_5 (by decide) ?_
    refine lv_goto (tgt := 21) hx hb dX5_bound_7 (by decide) ?_
    exact hret (-4 : Int32) () _ _ _ _ hF.symm rfl hP hD hS dX5_bound_21
theorem bnd_no {v a b r : Int32} (e : f_X5_bound v a b = r) : vp_in (-r) 7 := by
  subst e
  unfold f_X5_bound
  (repeat' split) <;> exact vp_of (by decide)
def f_X5_isPlayer (m_players : Int32) (v1 : Int32) : Int32 := (if v1 < (0 : Int32) then (0 : Int32) else (if m_players ≤ v1 then (0 : Int32) else (1 : Int32)))
abbrev rm_X5_isPlayer : Room := { frames := 0, cells := 0, slots := 0, locals := 0 }
noncomputable abbrev wd_X5_isPlayer : List Cond := .code yX5_isPlayer cX5_isPlayer 2 (some .boolean) :: wsL_law
set_option maxHeartbeats 4000000 in
set_option maxRecDepth 100000 in
theorem c_X5_isPlayer (l : Launch) (dC : Nat → ClassId) (dI : Nat → Nat → Nat) (cI cT : ClassId) (zL : Nat) (z_refused : Nat) (z_place : Nat) (z_pace : Nat) (z_skillOf : Nat) (z_tired : Nat) (z_kind : Nat) (z_figure : Nat) (z_height : Nat) (z_tape : Nat) (z_letter : Nat) (z_letterAt : Nat) (z_told : Nat) (z_stored : Nat) (z_row : Nat) (m_yards : Int32) (m_wind : Int32) (m_players : Int32) (m_touches : Int32) (m_holder : Int32) (m_kept : Int32) (m_taped : Int32) (m_at : Int32) (m_statements : Int32) (m_hasImage : Int32) (m_isKeeping : Int32) (m_cursor : Int32) (m_onUp : Int64) (m_onDown : Int64) (m_longMany : Int32) (m_longLeast : Int32) (m_rowMany : Int32) (m_lots : Int32) (m_refused : Nat → Int32) (m_place : Nat → Int32) (m_pace : Nat → Int32) (m_skillOf : Nat → Int32) (m_tired : Nat → Int32) (m_kind : Nat → Int32) (m_figure : Nat → Int32) (m_height : Nat → Int32) (m_tape : Nat → Int32) (m_letter : Nat → Int32) (m_letterAt : Nat → Int32) (m_told : Nat → Int32) (m_stored : Nat → Int32) (m_row : Nat → Int32) (pl : va_W) (v1 : Int32) : CtI l (dC, dI) cI cT yX5_isPlayer wd_X5_isPlayer rm_X5_isPlayer [.ref zL, .int v1] (W_model cI cT zL z_refused z_place z_pace z_skillOf z_tired z_kind z_figure z_height z_tape z_letter z_letterAt z_told z_stored z_row m_yards m_wind m_players m_touches m_holder m_kept m_taped m_at m_statements m_hasImage m_isKeeping m_cursor m_onUp m_onDown m_longMany m_longLeast m_rowMany m_lots m_refused m_place m_pace m_skillOf m_tired m_kind m_figure m_height m_tape m_letter m_letterAt m_told m_stored m_row ++ pl) (fun (r : Int32) (_ : Unit) => f_X5_isPlayer m_players v1 = r ∧ (r = 0 ∨ r = 1)) (fun _ => W_model cI cT zL z_refused z_place z_pace z_skillOf z_tired z_kind z_figure z_height z_tape z_letter z_letterAt z_told z_stored z_row m_yards m_wind m_players m_touches m_holder m_kept m_taped m_at m_statements m_hasImage m_isKeeping m_cursor m_onUp m_onDown m_longMany m_longLeast m_rowMany m_lots m_refused m_place m_pace m_skillOf m_tired m_kind m_figure m_height m_tape m_letter m_letterAt m_told m_stored m_row ++ pl) 0 0 := by
  refine ct_i (cc := cX5_isPlayer) (maxL := 2) (by decide) rfl (Nat.le_of_ble_eq_true rfl) ?_
  intro p e s m args below meth c A ls Q hx hb hml hts hown hmn hA hK hNS hP hD hS hl hret
  have ht : ∀ w ∈ wsL_law, w.before args s = true := fun w h => hts w (List.mem_cons_of_mem _ h)
  have hl : lv_has ls 2 [(0, .ref zL), (1, .int v1)] := hl
  generalize hF : f_X5_isPlayer m_players v1 = F at hret
  unfold f_X5_isPlayer at hF
  refine lv_iload_n hx hb dX5_isPlayer_0 rfl (lv_at hl 1 rfl) ?_
  refine lv_if_lt (tgt := 16) hx hb dX5_isPlayer_1 (by decide) (fun c1 => ?_) (fun c1 => ?_)
  · rw [if_pos c1] at hF
    refine lv_iconst (v := (0 : Int32)) hx hb dX5_isPlayer_16 (by decide) ?_
    exact hret (0 : Int32) () _ _ _ _ ⟨hF.symm, (Or.inl rfl)⟩ (nb (Or.inl rfl)) hP hD hS dX5_isPlayer_17
  · rw [if_neg c1] at hF
    refine lv_iload_n hx hb dX5_isPlayer_4 rfl (lv_at hl 1 rfl) ?_
    refine lv_aload_n hx hb dX5_isPlayer_5 rfl (lv_at hl 0 rfl) ?_
    refine gf_X5_10 (v := .int m_players) hx hb ht hown hK hP 0 rfl (ht _ wm_292) rfl dX5_isPlayer_6 ?_
    refine lv_icmp_ge (tgt := 16) hx hb dX5_isPlayer_9 (by decide) (fun c9 => ?_) (fun c9 => ?_)
    · rw [if_pos c9] at hF
      refine lv_iconst (v := (0 : Int32)) hx hb dX5_isPlayer_16 (by decide) ?_
      exact hret (0 : Int32) () _ _ _ _ ⟨hF.symm, (Or.inl rfl)⟩ (nb (Or.inl rfl)) hP hD hS dX5_isPlayer_17
    · rw [if_neg c9] at hF
      refine lv_iconst (v := (1 : Int32)) hx hb dX5_isPlayer_12 (by decide) ?_
      refine lv_goto (tgt := 17) hx hb dX5_isPlayer_13 (by decide) ?_
      exact hret (1 : Int32) () _ _ _ _ ⟨hF.symm, (Or.inr rfl)⟩ (nb (Or.inr rfl)) hP hD hS dX5_isPlayer_17
def f_X5_isTouch (m_touches : Int32) (v1 : Int32) : Int32 := (if v1 < (0 : Int32) then (0 : Int32) else (if m_touches ≤ v1 then (0 : Int32) else (1 : Int32)))
abbrev rm_X5_isTouch : Room := { frames := 0, cells := 0, slots := 0, locals := 0 }
noncomputable abbrev wd_X5_isTouch : List Cond := .code yX5_isTouch cX5_isTouch 2 (some .boolean) :: wsL_law
set_option maxHeartbeats 4000000 in
set_option maxRecDepth 100000 in
theorem c_X5_isTouch (l : Launch) (dC : Nat → ClassId) (dI : Nat → Nat → Nat) (cI cT : ClassId) (zL : Nat) (z_refused : Nat) (z_place : Nat) (z_pace : Nat) (z_skillOf : Nat) (z_tired : Nat) (z_kind : Nat) (z_figure : Nat) (z_height : Nat) (z_tape : Nat) (z_letter : Nat) (z_letterAt : Nat) (z_told : Nat) (z_stored : Nat) (z_row : Nat) (m_yards : Int32) (m_wind : Int32) (m_players : Int32) (m_touches : Int32) (m_holder : Int32) (m_kept : Int32) (m_taped : Int32) (m_at : Int32) (m_statements : Int32) (m_hasImage : Int32) (m_isKeeping : Int32) (m_cursor : Int32) (m_onUp : Int64) (m_onDown : Int64) (m_longMany : Int32) (m_longLeast : Int32) (m_rowMany : Int32) (m_lots : Int32) (m_refused : Nat → Int32) (m_place : Nat → Int32) (m_pace : Nat → Int32) (m_skillOf : Nat → Int32) (m_tired : Nat → Int32) (m_kind : Nat → Int32) (m_figure : Nat → Int32) (m_height : Nat → Int32) (m_tape : Nat → Int32) (m_letter : Nat → Int32) (m_letterAt : Nat → Int32) (m_told : Nat → Int32) (m_stored : Nat → Int32) (m_row : Nat → Int32) (pl : va_W) (v1 : Int32) : CtI l (dC, dI) cI cT yX5_isTouch wd_X5_isTouch rm_X5_isTouch [.ref zL, .int v1] (W_model cI cT zL z_refused z_place z_pace z_skillOf z_tired z_kind z_figure z_height z_tape z_letter z_letterAt z_told z_stored z_row m_yards m_wind m_players m_touches m_holder m_kept m_taped m_at m_statements m_hasImage m_isKeeping m_cursor m_onUp m_onDown m_longMany m_longLeast m_rowMany m_lots m_refused m_place m_pace m_skillOf m_tired m_kind m_figure m_height m_tape m_letter m_letterAt m_told m_stored m_row ++ pl) (fun (r : Int32) (_ : Unit) => f_X5_isTouch m_touches v1 = r ∧ (r = 0 ∨ r = 1)) (fun _ => W_model cI cT zL z_refused z_place z_pace z_skillOf z_tired z_kind z_figure z_height z_tape z_letter z_letterAt z_told z_stored z_row m_yards m_wind m_players m_touches m_holder m_kept m_taped m_at m_statements m_hasImage m_isKeeping m_cursor m_onUp m_onDown m_longMany m_longLeast m_rowMany m_lots m_refused m_place m_pace m_skillOf m_tired m_kind m_figure m_height m_tape m_letter m_letterAt m_told m_stored m_row ++ pl) 0 0 := by
  refine ct_i (cc := cX5_isTouch) (maxL := 2) (by decide) rfl (Nat.le_of_ble_eq_true rfl) ?_
  intro p e s m args below meth c A ls Q hx hb hml hts hown hmn hA hK hNS hP hD hS hl hret
  have ht : ∀ w ∈ wsL_law, w.before args s = true := fun w h => hts w (List.mem_cons_of_mem _ h)
  have hl : lv_has ls 2 [(0, .ref zL), (1, .int v1)] := hl
  generalize hF : f_X5_isTouch m_touches v1 = F at hret
  unfold f_X5_isTouch at hF
  refine lv_iload_n hx hb dX5_isTouch_0 rfl (lv_at hl 1 rfl) ?_
  refine lv_if_lt (tgt := 16) hx hb dX5_isTouch_1 (by decide) (fun c1 => ?_) (fun c1 => ?_)
  · rw [if_pos c1] at hF
    refine lv_iconst (v := (0 : Int32)) hx hb dX5_isTouch_16 (by decide) ?_
    exact hret (0 : Int32) () _ _ _ _ ⟨hF.symm, (Or.inl rfl)⟩ (nb (Or.inl rfl)) hP hD hS dX5_isTouch_17
  · rw [if_neg c1] at hF
    refine lv_iload_n hx hb dX5_isTouch_4 rfl (lv_at hl 1 rfl) ?_
    refine lv_aload_n hx hb dX5_isTouch_5 rfl (lv_at hl 0 rfl) ?_
    refine gf_X5_11 (v := .int m_touches) hx hb ht hown hK hP 0 rfl (ht _ wm_293) rfl dX5_isTouch_6 ?_
    refine lv_icmp_ge (tgt := 16) hx hb dX5_isTouch_9 (by decide) (fun c9 => ?_) (fun c9 => ?_)
    · rw [if_pos c9] at hF
      refine lv_iconst (v := (0 : Int32)) hx hb dX5_isTouch_16 (by decide) ?_
      exact hret (0 : Int32) () _ _ _ _ ⟨hF.symm, (Or.inl rfl)⟩ (nb (Or.inl rfl)) hP hD hS dX5_isTouch_17
    · rw [if_neg c9] at hF
      refine lv_iconst (v := (1 : Int32)) hx hb dX5_isTouch_12 (by decide) ?_
      refine lv_goto (tgt := 17) hx hb dX5_isTouch_13 (by decide) ?_
      exact hret (1 : Int32) () _ _ _ _ ⟨hF.symm, (Or.inr rfl)⟩ (nb (Or.inr rfl)) hP hD hS dX5_isTouch_17
def f_X5_isYard (m_yards : Int32) (v1 : Int32) : Int32 := (if v1 < (0 : Int32) then (0 : Int32) else (if m_yards ≤ v1 then (0 : Int32) else (1 : Int32)))
abbrev rm_X5_isYard : Room := { frames := 0, cells := 0, slots := 0, locals := 0 }
noncomputable abbrev wd_X5_isYard : List Cond := .code yX5_isYard cX5_isYard 2 (some .boolean) :: wsL_law
set_option maxHeartbeats 4000000 in
set_option maxRecDepth 100000 in
theorem c_X5_isYard (l : Launch) (dC : Nat → ClassId) (dI : Nat → Nat → Nat) (cI cT : ClassId) (zL : Nat) (z_refused : Nat) (z_place : Nat) (z_pace : Nat) (z_skillOf : Nat) (z_tired : Nat) (z_kind : Nat) (z_figure : Nat) (z_height : Nat) (z_tape : Nat) (z_letter : Nat) (z_letterAt : Nat) (z_told : Nat) (z_stored : Nat) (z_row : Nat) (m_yards : Int32) (m_wind : Int32) (m_players : Int32) (m_touches : Int32) (m_holder : Int32) (m_kept : Int32) (m_taped : Int32) (m_at : Int32) (m_statements : Int32) (m_hasImage : Int32) (m_isKeeping : Int32) (m_cursor : Int32) (m_onUp : Int64) (m_onDown : Int64) (m_longMany : Int32) (m_longLeast : Int32) (m_rowMany : Int32) (m_lots : Int32) (m_refused : Nat → Int32) (m_place : Nat → Int32) (m_pace : Nat → Int32) (m_skillOf : Nat → Int32) (m_tired : Nat → Int32) (m_kind : Nat → Int32) (m_figure : Nat → Int32) (m_height : Nat → Int32) (m_tape : Nat → Int32) (m_letter : Nat → Int32) (m_letterAt : Nat → Int32) (m_told : Nat → Int32) (m_stored : Nat → Int32) (m_row : Nat → Int32) (pl : va_W) (v1 : Int32) : CtI l (dC, dI) cI cT yX5_isYard wd_X5_isYard rm_X5_isYard [.ref zL, .int v1] (W_model cI cT zL z_refused z_place z_pace z_skillOf z_tired z_kind z_figure z_height z_tape z_letter z_letterAt z_told z_stored z_row m_yards m_wind m_players m_touches m_holder m_kept m_taped m_at m_statements m_hasImage m_isKeeping m_cursor m_onUp m_onDown m_longMany m_longLeast m_rowMany m_lots m_refused m_place m_pace m_skillOf m_tired m_kind m_figure m_height m_tape m_letter m_letterAt m_told m_stored m_row ++ pl) (fun (r : Int32) (_ : Unit) => f_X5_isYard m_yards v1 = r ∧ (r = 0 ∨ r = 1)) (fun _ => W_model cI cT zL z_refused z_place z_pace z_skillOf z_tired z_kind z_figure z_height z_tape z_letter z_letterAt z_told z_stored z_row m_yards m_wind m_players m_touches m_holder m_kept m_taped m_at m_statements m_hasImage m_isKeeping m_cursor m_onUp m_onDown m_longMany m_longLeast m_rowMany m_lots m_refused m_place m_pace m_skillOf m_tired m_kind m_figure m_height m_tape m_letter m_letterAt m_told m_stored m_row ++ pl) 0 0 := by
  refine ct_i (cc := cX5_isYard) (maxL := 2) (by decide) rfl (Nat.le_of_ble_eq_true rfl) ?_
  intro p e s m args below meth c A ls Q hx hb hml hts hown hmn hA hK hNS hP hD hS hl hret
  have ht : ∀ w ∈ wsL_law, w.before args s = true := fun w h => hts w (List.mem_cons_of_mem _ h)
  have hl : lv_has ls 2 [(0, .ref zL), (1, .int v1)] := hl
  generalize hF : f_X5_isYard m_yards v1 = F at hret
  unfold f_X5_isYard at hF
  refine lv_iload_n hx hb dX5_isYard_0 rfl (lv_at hl 1 rfl) ?_
  refine lv_if_lt (tgt := 16) hx hb dX5_isYard_1 (by decide) (fun c1 => ?_) (fun c1 => ?_)
  · rw [if_pos c1] at hF
    refine lv_iconst (v := (0 : Int32)) hx hb dX5_isYard_16 (by decide) ?_
    exact hret (0 : Int32) () _ _ _ _ ⟨hF.symm, (Or.inl rfl)⟩ (nb (Or.inl rfl)) hP hD hS dX5_isYard_17
  · rw [if_neg c1] at hF
    refine lv_iload_n hx hb dX5_isYard_4 rfl (lv_at hl 1 rfl) ?_
    refine lv_aload_n hx hb dX5_isYard_5 rfl (lv_at hl 0 rfl) ?_
    refine gf_X5_8 (v := .int m_yards) hx hb ht hown hK hP 0 rfl (ht _ wm_77) rfl dX5_isYard_6 ?_
    refine lv_icmp_ge (tgt := 16) hx hb dX5_isYard_9 (by decide) (fun c9 => ?_) (fun c9 => ?_)
    · rw [if_pos c9] at hF
      refine lv_iconst (v := (0 : Int32)) hx hb dX5_isYard_16 (by decide) ?_
      exact hret (0 : Int32) () _ _ _ _ ⟨hF.symm, (Or.inl rfl)⟩ (nb (Or.inl rfl)) hP hD hS dX5_isYard_17
    · rw [if_neg c9] at hF
      refine lv_iconst (v := (1 : Int32)) hx hb dX5_isYard_12 (by decide) ?_
      refine lv_goto (tgt := 17) hx hb dX5_isYard_13 (by decide) ?_
      exact hret (1 : Int32) () _ _ _ _ ⟨hF.symm, (Or.inr rfl)⟩ (nb (Or.inr rfl)) hP hD hS dX5_isYard_17
theorem mPlayer_t {pc v r : Int32} (e : f_X5_isPlayer pc v = r) (h : ¬ r = 0) : 0 ≤ v.toInt ∧ v.toInt < pc.toInt := by
  subst e
  unfold f_X5_isPlayer at h
  split at h
  · exact absurd rfl h
  · next h1 =>
    split at h
    · exact absurd rfl h
    · next h2 =>
      have q1 := mt Int32.lt_iff_toInt_lt.mpr h1
      have q2 := mt Int32.le_iff_toInt_le.mpr h2
      have z : (0 : Int32).toInt = 0 := rfl
      omega
theorem mTouch_t {pc v r : Int32} (e : f_X5_isTouch pc v = r) (h : ¬ r = 0) : 0 ≤ v.toInt ∧ v.toInt < pc.toInt := by
  subst e
  unfold f_X5_isTouch at h
  split at h
  · exact absurd rfl h
  · next h1 =>
    split at h
    · exact absurd rfl h
    · next h2 =>
      have q1 := mt Int32.lt_iff_toInt_lt.mpr h1
      have q2 := mt Int32.le_iff_toInt_le.mpr h2
      have z : (0 : Int32).toInt = 0 := rfl
      omega
def f_X5_airOf (m_kind : Nat → Int32) (m_height : Nat → Int32) (v1 : Int32) : Int32 := (if (m_height (Int32.toNatClampNeg v1)) ≤ (1 : Int32) then (if (m_kind (Int32.toNatClampNeg v1)) = (1 : Int32) then (1 : Int32) else (if (m_kind (Int32.toNatClampNeg v1)) = (2 : Int32) then ((m_height (Int32.toNatClampNeg v1)) + (1 : Int32)) else (if (m_kind (Int32.toNatClampNeg v1)) = (3 : Int32) then ((1 : Int32) + (1 : Int32)) else (if (m_kind (Int32.toNatClampNeg v1)) = (4 : Int32) then ((m_height (Int32.toNatClampNeg v1)) + (1 : Int32)) else (m_height (Int32.toNatClampNeg v1)))))) else (if (m_kind (Int32.toNatClampNeg v1)) = (1 : Int32) then ((m_height (Int32.toNatClampNeg v1)) / (2 : Int32)) else (if (m_kind (Int32.toNatClampNeg v1)) = (2 : Int32) then ((m_height (Int32.toNatClampNeg v1)) + (1 : Int32)) else (if (m_kind (Int32.toNatClampNeg v1)) = (3 : Int32) then (((m_height (Int32.toNatClampNeg v1)) / (2 : Int32)) + (1 : Int32)) else (if (m_kind (Int32.toNatClampNeg v1)) = (4 : Int32) then ((m_height (Int32.toNatClampNeg v1)) + (1 : Int32)) else (m_height (Int32.toNatClampNeg v1)))))))
abbrev rm_X5_airOf : Room := { frames := 0, cells := 0, slots := 0, locals := 0 }
noncomputable abbrev wd_X5_airOf : List Cond := .code yX5_airOf cX5_airOf 3 (some .int) :: wsL_law
set_option maxHeartbeats 4000000 in
set_option maxRecDepth 100000 in
theorem c_X5_airOf (l : Launch) (dC : Nat → ClassId) (dI : Nat → Nat → Nat) (cI cT : ClassId) (zL : Nat) (z_refused : Nat) (z_place : Nat) (z_pace : Nat) (z_skillOf : Nat) (z_tired : Nat) (z_kind : Nat) (z_figure : Nat) (z_height : Nat) (z_tape : Nat) (z_letter : Nat) (z_letterAt : Nat) (z_told : Nat) (z_stored : Nat) (z_row : Nat) (m_yards : Int32) (m_wind : Int32) (m_players : Int32) (m_touches : Int32) (m_holder : Int32) (m_kept : Int32) (m_taped : Int32) (m_at : Int32) (m_statements : Int32) (m_hasImage : Int32) (m_isKeeping : Int32) (m_cursor : Int32) (m_onUp : Int64) (m_onDown : Int64) (m_longMany : Int32) (m_longLeast : Int32) (m_rowMany : Int32) (m_lots : Int32) (m_refused : Nat → Int32) (m_place : Nat → Int32) (m_pace : Nat → Int32) (m_skillOf : Nat → Int32) (m_tired : Nat → Int32) (m_kind : Nat → Int32) (m_figure : Nat → Int32) (m_height : Nat → Int32) (m_tape : Nat → Int32) (m_letter : Nat → Int32) (m_letterAt : Nat → Int32) (m_told : Nat → Int32) (m_stored : Nat → Int32) (m_row : Nat → Int32) (pl : va_W) (v1 : Int32) (h_v1 : vp_in v1 6) : CtI l (dC, dI) cI cT yX5_airOf wd_X5_airOf rm_X5_airOf [.ref zL, .int v1] (W_model cI cT zL z_refused z_place z_pace z_skillOf z_tired z_kind z_figure z_height z_tape z_letter z_letterAt z_told z_stored z_row m_yards m_wind m_players m_touches m_holder m_kept m_taped m_at m_statements m_hasImage m_isKeeping m_cursor m_onUp m_onDown m_longMany m_longLeast m_rowMany m_lots m_refused m_place m_pace m_skillOf m_tired m_kind m_figure m_height m_tape m_letter m_letterAt m_told m_stored m_row ++ pl) (fun (r : Int32) (_ : Unit) => f_X5_airOf m_kind m_height v1 = r) (fun _ => W_model cI cT zL z_refused z_place z_pace z_skillOf z_tired z_kind z_figure z_height z_tape z_letter z_letterAt z_told z_stored z_row m_yards m_wind m_players m_touches m_holder m_kept m_taped m_at m_statements m_hasImage m_isKeeping m_cursor m_onUp m_onDown m_longMany m_longLeast m_rowMany m_lots m_refused m_place m_pace m_skillOf m_tired m_kind m_figure m_height m_tape m_letter m_letterAt m_told m_stored m_row ++ pl) 0 0 := by
  refine ct_i (cc := cX5_airOf) (maxL := 3) (by decide) rfl (Nat.le_of_ble_eq_true rfl) ?_
  intro p e s m args below meth c A ls Q hx hb hml hts hown hmn hA hK hNS hP hD hS hl hret
  have ht : ∀ w ∈ wsL_law, w.before args s = true := fun w h => hts w (List.mem_cons_of_mem _ h)
  have hl : lv_has ls 3 [(0, .ref zL), (1, .int v1)] := hl
  generalize hF : f_X5_airOf m_kind m_height v1 = F at hret
  unfold f_X5_airOf at hF
  refine lv_aload_n hx hb dX5_airOf_0 rfl (lv_at hl 0 rfl) ?_
  refine gf_X5_7 (v := .ref z_height) hx hb ht hown hK hP 0 rfl (ht _ wm_76) rfl dX5_airOf_1 ?_
  refine lv_iload_n hx hb dX5_airOf_4 rfl (lv_at hl 1 rfl) ?_
  refine va_iald hx hb hK hP 8 0 rfl rfl (vp_of (by have p_h_v1 := vp_to h_v1; omega)) dX5_airOf_5 ?_
  refine lv_iconst (v := (1 : Int32)) hx hb dX5_airOf_6 (by decide) ?_
  refine lv_icmp_le (tgt := 21) hx hb dX5_airOf_7 (by decide) (fun c7 => ?_) (fun c7 => ?_)
  · rw [if_pos c7] at hF
    refine lv_iconst (v := (1 : Int32)) hx hb dX5_airOf_21 (by decide) ?_
    refine lv_istore_n (lv' := [(2, .int (1 : Int32)), (0, .ref zL), (1, .int v1)]) hx hb dX5_airOf_22 rfl hl (by decide) rfl (fun ls hl => ?_)
    refine lv_aload_n hx hb dX5_airOf_23 rfl (lv_at hl 1 rfl) ?_
    refine gf_X5_5 (v := .ref z_kind) hx hb ht hown hK hP 0 rfl (ht _ wm_74) rfl dX5_airOf_24 ?_
    refine lv_iload_n hx hb dX5_airOf_27 rfl (lv_at hl 2 rfl) ?_
    refine va_iald hx hb hK hP 6 0 rfl rfl (vp_of (by have zl_0 : (1 : Int32).toInt = 1 := (by decide); have p_h_v1 := vp_to h_v1; have q_c7 := Int32.le_iff_toInt_le.mp c7; omega)) dX5_airOf_28 ?_
    by_cases w1 : (m_kind (Int32.toNatClampNeg v1)) = (1 : Int32)
    · rw [if_pos w1] at hF
      refine lv_tableIn (tgt := 60) hx hb dX5_airOf_29 (by rw [w1]; decide) (by rw [w1]; decide) (by rw [w1]; rfl) (by decide) ?_
      refine lv_iload_n hx hb dX5_airOf_60 rfl (lv_at hl 0 rfl) ?_
      exact hret (1 : Int32) () _ _ _ _ hF.symm rfl hP hD hS dX5_airOf_61
    · rw [if_neg w1] at hF
      by_cases w2 : (m_kind (Int32.toNatClampNeg v1)) = (2 : Int32)
      · rw [if_pos w2] at hF
        refine lv_tableIn (tgt := 62) hx hb dX5_airOf_29 (by rw [w2]; decide) (by rw [w2]; decide) (by rw [w2]; rfl) (by decide) ?_
        refine lv_aload_n hx hb dX5_airOf_62 rfl (lv_at hl 1 rfl) ?_
        refine gf_X5_7 (v := .ref z_height) hx hb ht hown hK hP 0 rfl (ht _ wm_76) rfl dX5_airOf_63 ?_
        refine lv_iload_n hx hb dX5_airOf_66 rfl (lv_at hl 2 rfl) ?_
        refine va_iald hx hb hK hP 8 0 rfl rfl (vp_of (by have zl_0 : (1 : Int32).toInt = 1 := (by decide); have zl_1 : (2 : Int32).toInt = 2 := (by decide); have p_h_v1 := vp_to h_v1; have q_c7 := Int32.le_iff_toInt_le.mp c7; have q_w1 : ¬ Int32.toInt (m_kind (Int32.toNatClampNeg v1)) = Int32.toInt (1 : Int32) := fun h => w1 (Int32.toInt_inj.mp h); have q_w2 := congrArg Int32.toInt w2; omega)) dX5_airOf_67 ?_
        refine lv_iconst (v := (1 : Int32)) hx hb dX5_airOf_68 (by decide) ?_
        refine lv_iadd hx hb dX5_airOf_69 ?_
        exact hret ((m_height (Int32.toNatClampNeg v1)) + (1 : Int32)) () _ _ _ _ hF.symm rfl hP hD hS dX5_airOf_70
      · rw [if_neg w2] at hF
        by_cases w3 : (m_kind (Int32.toNatClampNeg v1)) = (3 : Int32)
        · rw [if_pos w3] at hF
          refine lv_tableIn (tgt := 71) hx hb dX5_airOf_29 (by rw [w3]; decide) (by rw [w3]; decide) (by rw [w3]; rfl) (by decide) ?_
          refine lv_iload_n hx hb dX5_airOf_71 rfl (lv_at hl 0 rfl) ?_
          refine lv_iconst (v := (1 : Int32)) hx hb dX5_airOf_72 (by decide) ?_
          refine lv_iadd hx hb dX5_airOf_73 ?_
          exact hret ((1 : Int32) + (1 : Int32)) () _ _ _ _ hF.symm rfl hP hD hS dX5_airOf_74
        · rw [if_neg w3] at hF
          by_cases w4 : (m_kind (Int32.toNatClampNeg v1)) = (4 : Int32)
          · rw [if_pos w4] at hF
            refine lv_tableIn (tgt := 62) hx hb dX5_airOf_29 (by rw [w4]; decide) (by rw [w4]; decide) (by rw [w4]; rfl) (by decide) ?_
            refine lv_aload_n hx hb dX5_airOf_62 rfl (lv_at hl 1 rfl) ?_
            refine gf_X5_7 (v := .ref z_height) hx hb ht hown hK hP 0 rfl (ht _ wm_76) rfl dX5_airOf_63 ?_
            refine lv_iload_n hx hb dX5_airOf_66 rfl (lv_at hl 2 rfl) ?_
            refine va_iald hx hb hK hP 8 0 rfl rfl (vp_of (by have zl_0 : (1 : Int32).toInt = 1 := (by decide); have zl_1 : (2 : Int32).toInt = 2 := (by decide); have zl_2 : (3 : Int32).toInt = 3 := (by decide); have zl_3 : (4 : Int32).toInt = 4 := (by decide); have p_h_v1 := vp_to h_v1; have q_c7 := Int32.le_iff_toInt_le.mp c7; have q_w1 : ¬ Int32.toInt (m_kind (Int32.toNatClampNeg v1)) = Int32.toInt (1 : Int32) := fun h => w1 (Int32.toInt_inj.mp h); have q_w2 : ¬ Int32.toInt (m_kind (Int32.toNatClampNeg v1)) = Int32.toInt (2 : Int32) := fun h => w2 (Int32.toInt_inj.mp h); have q_w3 : ¬ Int32.toInt (m_kind (Int32.toNatClampNeg v1)) = Int32.toInt (3 : Int32) := fun h => w3 (Int32.toInt_inj.mp h); have q_w4 := congrArg Int32.toInt w4; omega)) dX5_airOf_67 ?_
            refine lv_iconst (v := (1 : Int32)) hx hb dX5_airOf_68 (by decide) ?_
            refine lv_iadd hx hb dX5_airOf_69 ?_
            exact hret ((m_height (Int32.toNatClampNeg v1)) + (1 : Int32)) () _ _ _ _ hF.symm rfl hP hD hS dX5_airOf_70
          · rw [if_neg w4] at hF
            refine lv_tableOut (tgt := 75) hx hb dX5_airOf_29 (by have q_w1 := lv_neT w1 (a := 1) rfl; have q_w2 := lv_neT w2 (a := 2) rfl; have q_w3 := lv_neT w3 (a := 3) rfl; have q_w4 := lv_neT w4 (a := 4) rfl; omega) (by decide) ?_
            refine lv_aload_n hx hb dX5_airOf_75 rfl (lv_at hl 1 rfl) ?_
            refine gf_X5_7 (v := .ref z_height) hx hb ht hown hK hP 0 rfl (ht _ wm_76) rfl dX5_airOf_76 ?_
            refine lv_iload_n hx hb dX5_airOf_79 rfl (lv_at hl 2 rfl) ?_
            refine va_iald hx hb hK hP 8 0 rfl rfl (vp_of (by have zl_0 : (1 : Int32).toInt = 1 := (by decide); have zl_1 : (2 : Int32).toInt = 2 := (by decide); have zl_2 : (3 : Int32).toInt = 3 := (by decide); have zl_3 : (4 : Int32).toInt = 4 := (by decide); have p_h_v1 := vp_to h_v1; have q_c7 := Int32.le_iff_toInt_le.mp c7; have q_w1 : ¬ Int32.toInt (m_kind (Int32.toNatClampNeg v1)) = Int32.toInt (1 : Int32) := fun h => w1 (Int32.toInt_inj.mp h); have q_w2 : ¬ Int32.toInt (m_kind (Int32.toNatClampNeg v1)) = Int32.toInt (2 : Int32) := fun h => w2 (Int32.toInt_inj.mp h); have q_w3 : ¬ Int32.toInt (m_kind (Int32.toNatClampNeg v1)) = Int32.toInt (3 : Int32) := fun h => w3 (Int32.toInt_inj.mp h); have q_w4 : ¬ Int32.toInt (m_kind (Int32.toNatClampNeg v1)) = Int32.toInt (4 : Int32) := fun h => w4 (Int32.toInt_inj.mp h); omega)) dX5_airOf_80 ?_
            exact hret (m_height (Int32.toNatClampNeg v1)) () _ _ _ _ hF.symm rfl hP hD hS dX5_airOf_81
  · rw [if_neg c7] at hF
    refine lv_aload_n hx hb dX5_airOf_10 rfl (lv_at hl 0 rfl) ?_
    refine gf_X5_7 (v := .ref z_height) hx hb ht hown hK hP 0 rfl (ht _ wm_76) rfl dX5_airOf_11 ?_
    refine lv_iload_n hx hb dX5_airOf_14 rfl (lv_at hl 1 rfl) ?_
    refine va_iald hx hb hK hP 8 0 rfl rfl (vp_of (by have zl_0 : (1 : Int32).toInt = 1 := (by decide); have p_h_v1 := vp_to h_v1; have q_c7 := mt Int32.le_iff_toInt_le.mpr c7; have i_c7 := inc_nle c7; omega)) dX5_airOf_15 ?_
    refine lv_iconst (v := (2 : Int32)) hx hb dX5_airOf_16 (by decide) ?_
    refine lv_idiv hx hb dX5_airOf_17 (by decide) ?_
    refine lv_goto (tgt := 22) hx hb dX5_airOf_18 (by decide) ?_
    refine lv_istore_n (lv' := [(2, .int ((m_height (Int32.toNatClampNeg v1)) / (2 : Int32))), (0, .ref zL), (1, .int v1)]) hx hb dX5_airOf_22 rfl hl (by decide) rfl (fun ls hl => ?_)
    refine lv_aload_n hx hb dX5_airOf_23 rfl (lv_at hl 1 rfl) ?_
    refine gf_X5_5 (v := .ref z_kind) hx hb ht hown hK hP 0 rfl (ht _ wm_74) rfl dX5_airOf_24 ?_
    refine lv_iload_n hx hb dX5_airOf_27 rfl (lv_at hl 2 rfl) ?_
    refine va_iald hx hb hK hP 6 0 rfl rfl (vp_of (by have zl_0 : (1 : Int32).toInt = 1 := (by decide); have p_h_v1 := vp_to h_v1; have q_c7 := mt Int32.le_iff_toInt_le.mpr c7; have i_c7 := inc_nle c7; omega)) dX5_airOf_28 ?_
    by_cases w5 : (m_kind (Int32.toNatClampNeg v1)) = (1 : Int32)
    · rw [if_pos w5] at hF
      refine lv_tableIn (tgt := 60) hx hb dX5_airOf_29 (by rw [w5]; decide) (by rw [w5]; decide) (by rw [w5]; rfl) (by decide) ?_
      refine lv_iload_n hx hb dX5_airOf_60 rfl (lv_at hl 0 rfl) ?_
      exact hret ((m_height (Int32.toNatClampNeg v1)) / (2 : Int32)) () _ _ _ _ hF.symm rfl hP hD hS dX5_airOf_61
    · rw [if_neg w5] at hF
      by_cases w6 : (m_kind (Int32.toNatClampNeg v1)) = (2 : Int32)
      · rw [if_pos w6] at hF
        refine lv_tableIn (tgt := 62) hx hb dX5_airOf_29 (by rw [w6]; decide) (by rw [w6]; decide) (by rw [w6]; rfl) (by decide) ?_
        refine lv_aload_n hx hb dX5_airOf_62 rfl (lv_at hl 1 rfl) ?_
        refine gf_X5_7 (v := .ref z_height) hx hb ht hown hK hP 0 rfl (ht _ wm_76) rfl dX5_airOf_63 ?_
        refine lv_iload_n hx hb dX5_airOf_66 rfl (lv_at hl 2 rfl) ?_
        refine va_iald hx hb hK hP 8 0 rfl rfl (vp_of (by have zl_0 : (1 : Int32).toInt = 1 := (by decide); have zl_1 : (2 : Int32).toInt = 2 := (by decide); have p_h_v1 := vp_to h_v1; have q_c7 := mt Int32.le_iff_toInt_le.mpr c7; have i_c7 := inc_nle c7; have q_w5 : ¬ Int32.toInt (m_kind (Int32.toNatClampNeg v1)) = Int32.toInt (1 : Int32) := fun h => w5 (Int32.toInt_inj.mp h); have q_w6 := congrArg Int32.toInt w6; omega)) dX5_airOf_67 ?_
        refine lv_iconst (v := (1 : Int32)) hx hb dX5_airOf_68 (by decide) ?_
        refine lv_iadd hx hb dX5_airOf_69 ?_
        exact hret ((m_height (Int32.toNatClampNeg v1)) + (1 : Int32)) () _ _ _ _ hF.symm rfl hP hD hS dX5_airOf_70
      · rw [if_neg w6] at hF
        by_cases w7 : (m_kind (Int32.toNatClampNeg v1)) = (3 : Int32)
        · rw [if_pos w7] at hF
          refine lv_tableIn (tgt := 71) hx hb dX5_airOf_29 (by rw [w7]; decide) (by rw [w7]; decide) (by rw [w7]; rfl) (by decide) ?_
          refine lv_iload_n hx hb dX5_airOf_71 rfl (lv_at hl 0 rfl) ?_
          refine lv_iconst (v := (1 : Int32)) hx hb dX5_airOf_72 (by decide) ?_
          refine lv_iadd hx hb dX5_airOf_73 ?_
          exact hret (((m_height (Int32.toNatClampNeg v1)) / (2 : Int32)) + (1 : Int32)) () _ _ _ _ hF.symm rfl hP hD hS dX5_airOf_74
        · rw [if_neg w7] at hF
          by_cases w8 : (m_kind (Int32.toNatClampNeg v1)) = (4 : Int32)
          · rw [if_pos w8] at hF
            refine lv_tableIn (tgt := 62) hx hb dX5_airOf_29 (by rw [w8]; decide) (by rw [w8]; decide) (by rw [w8]; rfl) (by decide) ?_
            refine lv_aload_n hx hb dX5_airOf_62 rfl (lv_at hl 1 rfl) ?_
            refine gf_X5_7 (v := .ref z_height) hx hb ht hown hK hP 0 rfl (ht _ wm_76) rfl dX5_airOf_63 ?_
            refine lv_iload_n hx hb dX5_airOf_66 rfl (lv_at hl 2 rfl) ?_
            refine va_iald hx hb hK hP 8 0 rfl rfl (vp_of (by have zl_0 : (1 : Int32).toInt = 1 := (by decide); have zl_1 : (2 : Int32).toInt = 2 := (by decide); have zl_2 : (3 : Int32).toInt = 3 := (by decide); have zl_3 : (4 : Int32).toInt = 4 := (by decide); have p_h_v1 := vp_to h_v1; have q_c7 := mt Int32.le_iff_toInt_le.mpr c7; have i_c7 := inc_nle c7; have q_w5 : ¬ Int32.toInt (m_kind (Int32.toNatClampNeg v1)) = Int32.toInt (1 : Int32) := fun h => w5 (Int32.toInt_inj.mp h); have q_w6 : ¬ Int32.toInt (m_kind (Int32.toNatClampNeg v1)) = Int32.toInt (2 : Int32) := fun h => w6 (Int32.toInt_inj.mp h); have q_w7 : ¬ Int32.toInt (m_kind (Int32.toNatClampNeg v1)) = Int32.toInt (3 : Int32) := fun h => w7 (Int32.toInt_inj.mp h); have q_w8 := congrArg Int32.toInt w8; omega)) dX5_airOf_67 ?_
            refine lv_iconst (v := (1 : Int32)) hx hb dX5_airOf_68 (by decide) ?_
            refine lv_iadd hx hb dX5_airOf_69 ?_
            exact hret ((m_height (Int32.toNatClampNeg v1)) + (1 : Int32)) () _ _ _ _ hF.symm rfl hP hD hS dX5_airOf_70
          · rw [if_neg w8] at hF
            refine lv_tableOut (tgt := 75) hx hb dX5_airOf_29 (by have q_w5 := lv_neT w5 (a := 1) rfl; have q_w6 := lv_neT w6 (a := 2) rfl; have q_w7 := lv_neT w7 (a := 3) rfl; have q_w8 := lv_neT w8 (a := 4) rfl; omega) (by decide) ?_
            refine lv_aload_n hx hb dX5_airOf_75 rfl (lv_at hl 1 rfl) ?_
            refine gf_X5_7 (v := .ref z_height) hx hb ht hown hK hP 0 rfl (ht _ wm_76) rfl dX5_airOf_76 ?_
            refine lv_iload_n hx hb dX5_airOf_79 rfl (lv_at hl 2 rfl) ?_
            refine va_iald hx hb hK hP 8 0 rfl rfl (vp_of (by have zl_0 : (1 : Int32).toInt = 1 := (by decide); have zl_1 : (2 : Int32).toInt = 2 := (by decide); have zl_2 : (3 : Int32).toInt = 3 := (by decide); have zl_3 : (4 : Int32).toInt = 4 := (by decide); have p_h_v1 := vp_to h_v1; have q_c7 := mt Int32.le_iff_toInt_le.mpr c7; have i_c7 := inc_nle c7; have q_w5 : ¬ Int32.toInt (m_kind (Int32.toNatClampNeg v1)) = Int32.toInt (1 : Int32) := fun h => w5 (Int32.toInt_inj.mp h); have q_w6 : ¬ Int32.toInt (m_kind (Int32.toNatClampNeg v1)) = Int32.toInt (2 : Int32) := fun h => w6 (Int32.toInt_inj.mp h); have q_w7 : ¬ Int32.toInt (m_kind (Int32.toNatClampNeg v1)) = Int32.toInt (3 : Int32) := fun h => w7 (Int32.toInt_inj.mp h); have q_w8 : ¬ Int32.toInt (m_kind (Int32.toNatClampNeg v1)) = Int32.toInt (4 : Int32) := fun h => w8 (Int32.toInt_inj.mp h); omega)) dX5_airOf_80 ?_
            exact hret (m_height (Int32.toNatClampNeg v1)) () _ _ _ _ hF.symm rfl hP hD hS dX5_airOf_81
def f_X5_errorOf (m_skillOf : Nat → Int32) (m_tired : Nat → Int32) (m_kind : Nat → Int32) (m_figure : Nat → Int32) (m_height : Nat → Int32) (v1 : Int32) (v2 : Int32) (v3 : Int32) : Int32 := (if (0 : Int32) ≤ (((4 : Int32) + ((m_tired (Int32.toNatClampNeg v2)) / (20 : Int32))) - ((m_skillOf (Int32.toNatClampNeg v2)) / (2 : Int32))) then (if (m_kind (Int32.toNatClampNeg v1)) = (1 : Int32) then ((((4 : Int32) + ((m_tired (Int32.toNatClampNeg v2)) / (20 : Int32))) - ((m_skillOf (Int32.toNatClampNeg v2)) / (2 : Int32))) + (1 : Int32)) else (if (m_kind (Int32.toNatClampNeg v1)) = (2 : Int32) then ((((4 : Int32) + ((m_tired (Int32.toNatClampNeg v2)) / (20 : Int32))) - ((m_skillOf (Int32.toNatClampNeg v2)) / (2 : Int32))) + ((m_height (Int32.toNatClampNeg v1)) / (3 : Int32))) else (if (m_kind (Int32.toNatClampNeg v1)) = (3 : Int32) then (((((4 : Int32) + ((m_tired (Int32.toNatClampNeg v2)) / (20 : Int32))) - ((m_skillOf (Int32.toNatClampNeg v2)) / (2 : Int32))) + (1 : Int32)) / (2 : Int32)) else (if (m_kind (Int32.toNatClampNeg v1)) = (4 : Int32) then (((((4 : Int32) + ((m_tired (Int32.toNatClampNeg v2)) / (20 : Int32))) - ((m_skillOf (Int32.toNatClampNeg v2)) / (2 : Int32))) + ((m_height (Int32.toNatClampNeg v1)) / (3 : Int32))) + ((m_figure (Int32.toNatClampNeg v1)) / (4 : Int32))) else (if (m_kind (Int32.toNatClampNeg v1)) = (5 : Int32) then (if v2 = v3 then ((((4 : Int32) + ((m_tired (Int32.toNatClampNeg v2)) / (20 : Int32))) - ((m_skillOf (Int32.toNatClampNeg v2)) / (2 : Int32))) + (2 : Int32)) else (((4 : Int32) + ((m_tired (Int32.toNatClampNeg v2)) / (20 : Int32))) - ((m_skillOf (Int32.toNatClampNeg v2)) / (2 : Int32)))) else (((4 : Int32) + ((m_tired (Int32.toNatClampNeg v2)) / (20 : Int32))) - ((m_skillOf (Int32.toNatClampNeg v2)) / (2 : Int32)))))))) else (if (m_kind (Int32.toNatClampNeg v1)) = (1 : Int32) then ((0 : Int32) + (1 : Int32)) else (if (m_kind (Int32.toNatClampNeg v1)) = (2 : Int32) then ((0 : Int32) + ((m_height (Int32.toNatClampNeg v1)) / (3 : Int32))) else (if (m_kind (Int32.toNatClampNeg v1)) = (3 : Int32) then (((0 : Int32) + (1 : Int32)) / (2 : Int32)) else (if (m_kind (Int32.toNatClampNeg v1)) = (4 : Int32) then (((0 : Int32) + ((m_height (Int32.toNatClampNeg v1)) / (3 : Int32))) + ((m_figure (Int32.toNatClampNeg v1)) / (4 : Int32))) else (if (m_kind (Int32.toNatClampNeg v1)) = (5 : Int32) then (if v2 = v3 then ((0 : Int32) + (2 : Int32)) else (0 : Int32)) else (0 : Int32)))))))
abbrev rm_X5_errorOf : Room := { frames := 0, cells := 0, slots := 0, locals := 0 }
noncomputable abbrev wd_X5_errorOf : List Cond := .code yX5_errorOf cX5_errorOf 5 (some .int) :: wsL_law
set_option maxHeartbeats 4000000 in
set_option maxRecDepth 100000 in
theorem c_X5_errorOf (l : Launch) (dC : Nat → ClassId) (dI : Nat → Nat → Nat) (cI cT : ClassId) (zL : Nat) (z_refused : Nat) (z_place : Nat) (z_pace : Nat) (z_skillOf : Nat) (z_tired : Nat) (z_kind : Nat) (z_figure : Nat) (z_height : Nat) (z_tape : Nat) (z_letter : Nat) (z_letterAt : Nat) (z_told : Nat) (z_stored : Nat) (z_row : Nat) (m_yards : Int32) (m_wind : Int32) (m_players : Int32) (m_touches : Int32) (m_holder : Int32) (m_kept : Int32) (m_taped : Int32) (m_at : Int32) (m_statements : Int32) (m_hasImage : Int32) (m_isKeeping : Int32) (m_cursor : Int32) (m_onUp : Int64) (m_onDown : Int64) (m_longMany : Int32) (m_longLeast : Int32) (m_rowMany : Int32) (m_lots : Int32) (m_refused : Nat → Int32) (m_place : Nat → Int32) (m_pace : Nat → Int32) (m_skillOf : Nat → Int32) (m_tired : Nat → Int32) (m_kind : Nat → Int32) (m_figure : Nat → Int32) (m_height : Nat → Int32) (m_tape : Nat → Int32) (m_letter : Nat → Int32) (m_letterAt : Nat → Int32) (m_told : Nat → Int32) (m_stored : Nat → Int32) (m_row : Nat → Int32) (pl : va_W) (v1 : Int32) (v2 : Int32) (v3 : Int32) (h_v1 : vp_in v1 6) (h_v2 : vp_in v2 5) : CtI l (dC, dI) cI cT yX5_errorOf wd_X5_errorOf rm_X5_errorOf [.ref zL, .int v1, .int v2, .int v3] (W_model cI cT zL z_refused z_place z_pace z_skillOf z_tired z_kind z_figure z_height z_tape z_letter z_letterAt z_told z_stored z_row m_yards m_wind m_players m_touches m_holder m_kept m_taped m_at m_statements m_hasImage m_isKeeping m_cursor m_onUp m_onDown m_longMany m_longLeast m_rowMany m_lots m_refused m_place m_pace m_skillOf m_tired m_kind m_figure m_height m_tape m_letter m_letterAt m_told m_stored m_row ++ pl) (fun (r : Int32) (_ : Unit) => f_X5_errorOf m_skillOf m_tired m_kind m_figure m_height v1 v2 v3 = r) (fun _ => W_model cI cT zL z_refused z_place z_pace z_skillOf z_tired z_kind z_figure z_height z_tape z_letter z_letterAt z_told z_stored z_row m_yards m_wind m_players m_touches m_holder m_kept m_taped m_at m_statements m_hasImage m_isKeeping m_cursor m_onUp m_onDown m_longMany m_longLeast m_rowMany m_lots m_refused m_place m_pace m_skillOf m_tired m_kind m_figure m_height m_tape m_letter m_letterAt m_told m_stored m_row ++ pl) 0 0 := by
  refine ct_i (cc := cX5_errorOf) (maxL := 5) (by decide) rfl (Nat.le_of_ble_eq_true rfl) ?_
  intro p e s m args below meth c A ls Q hx hb hml hts hown hmn hA hK hNS hP hD hS hl hret
  have ht : ∀ w ∈ wsL_law, w.before args s = true := fun w h => hts w (List.mem_cons_of_mem _ h)
  have hl : lv_has ls 5 [(0, .ref zL), (1, .int v1), (2, .int v2), (3, .int v3)] := hl
  generalize hF : f_X5_errorOf m_skillOf m_tired m_kind m_figure m_height v1 v2 v3 = F at hret
  unfold f_X5_errorOf at hF
  refine lv_iconst (v := (4 : Int32)) hx hb dX5_errorOf_0 (by decide) ?_
  refine lv_aload_n hx hb dX5_errorOf_1 rfl (lv_at hl 0 rfl) ?_
  refine gf_X5_4 (v := .ref z_tired) hx hb ht hown hK hP 0 rfl (ht _ wm_73) rfl dX5_errorOf_2 ?_
  refine lv_iload_n hx hb dX5_errorOf_5 rfl (lv_at hl 2 rfl) ?_
  refine va_iald hx hb hK hP 5 0 rfl rfl (vp_of (by have p_h_v1 := vp_to h_v1; have p_h_v2 := vp_to h_v2; omega)) dX5_errorOf_6 ?_
  refine lv_bipush (v := (20 : Int32)) hx hb dX5_errorOf_7 (by decide) ?_
  refine lv_idiv hx hb dX5_errorOf_9 (by decide) ?_
  refine lv_iadd hx hb dX5_errorOf_10 ?_
  refine lv_aload_n hx hb dX5_errorOf_11 rfl (lv_at hl 0 rfl) ?_
  refine gf_X5_3 (v := .ref z_skillOf) hx hb ht hown hK hP 0 rfl (ht _ wm_72) rfl dX5_errorOf_12 ?_
  refine lv_iload_n hx hb dX5_errorOf_15 rfl (lv_at hl 2 rfl) ?_
  refine va_iald hx hb hK hP 4 0 rfl rfl (vp_of (by have p_h_v1 := vp_to h_v1; have p_h_v2 := vp_to h_v2; omega)) dX5_errorOf_16 ?_
  refine lv_iconst (v := (2 : Int32)) hx hb dX5_errorOf_17 (by decide) ?_
  refine lv_idiv hx hb dX5_errorOf_18 (by decide) ?_
  refine lv_isub hx hb dX5_errorOf_19 ?_
  refine lv_istore (lv' := [(4, .int (((4 : Int32) + ((m_tired (Int32.toNatClampNeg v2)) / (20 : Int32))) - ((m_skillOf (Int32.toNatClampNeg v2)) / (2 : Int32)))), (0, .ref zL), (1, .int v1), (2, .int v2), (3, .int v3)]) hx hb dX5_errorOf_20 hl (by decide) rfl (fun ls hl => ?_)
  refine lv_iload hx hb dX5_errorOf_22 (lv_at hl 0 rfl) ?_
  refine lv_if_ge (tgt := 30) hx hb dX5_errorOf_24 (by decide) (fun c24 => ?_) (fun c24 => ?_)
  · rw [if_pos c24] at hF
    refine lv_aload_n hx hb dX5_errorOf_30 rfl (lv_at hl 1 rfl) ?_
    refine gf_X5_5 (v := .ref z_kind) hx hb ht hown hK hP 0 rfl (ht _ wm_74) rfl dX5_errorOf_31 ?_
    refine lv_iload_n hx hb dX5_errorOf_34 rfl (lv_at hl 2 rfl) ?_
    refine va_iald hx hb hK hP 6 0 rfl rfl (vp_of (by have zl_0 : (0 : Int32).toInt = 0 := (by decide); have zl_1 : (2 : Int32).toInt = 2 := (by decide); have zl_2 : (20 : Int32).toInt = 20 := (by decide); have zl_3 : (4 : Int32).toInt = 4 := (by decide); have p_h_v1 := vp_to h_v1; have p_h_v2 := vp_to h_v2; have q_c24 := Int32.le_iff_toInt_le.mp c24; omega)) dX5_errorOf_35 ?_
    by_cases w1 : (m_kind (Int32.toNatClampNeg v1)) = (1 : Int32)
    · rw [if_pos w1] at hF
      refine lv_tableIn (tgt := 72) hx hb dX5_errorOf_36 (by rw [w1]; decide) (by rw [w1]; decide) (by rw [w1]; rfl) (by decide) ?_
      refine lv_iload hx hb dX5_errorOf_72 (lv_at hl 0 rfl) ?_
      refine lv_iconst (v := (1 : Int32)) hx hb dX5_errorOf_74 (by decide) ?_
      refine lv_iadd hx hb dX5_errorOf_75 ?_
      exact hret ((((4 : Int32) + ((m_tired (Int32.toNatClampNeg v2)) / (20 : Int32))) - ((m_skillOf (Int32.toNatClampNeg v2)) / (2 : Int32))) + (1 : Int32)) () _ _ _ _ hF.symm rfl hP hD hS dX5_errorOf_76
    · rw [if_neg w1] at hF
      by_cases w2 : (m_kind (Int32.toNatClampNeg v1)) = (2 : Int32)
      · rw [if_pos w2] at hF
        refine lv_tableIn (tgt := 77) hx hb dX5_errorOf_36 (by rw [w2]; decide) (by rw [w2]; decide) (by rw [w2]; rfl) (by decide) ?_
        refine lv_iload hx hb dX5_errorOf_77 (lv_at hl 0 rfl) ?_
        refine lv_aload_n hx hb dX5_errorOf_79 rfl (lv_at hl 1 rfl) ?_
        refine gf_X5_7 (v := .ref z_height) hx hb ht hown hK hP 0 rfl (ht _ wm_76) rfl dX5_errorOf_80 ?_
        refine lv_iload_n hx hb dX5_errorOf_83 rfl (lv_at hl 2 rfl) ?_
        refine va_iald hx hb hK hP 8 0 rfl rfl (vp_of (by have zl_0 : (0 : Int32).toInt = 0 := (by decide); have zl_1 : (1 : Int32).toInt = 1 := (by decide); have zl_2 : (2 : Int32).toInt = 2 := (by decide); have zl_3 : (20 : Int32).toInt = 20 := (by decide); have zl_4 : (4 : Int32).toInt = 4 := (by decide); have p_h_v1 := vp_to h_v1; have p_h_v2 := vp_to h_v2; have q_c24 := Int32.le_iff_toInt_le.mp c24; have q_w1 : ¬ Int32.toInt (m_kind (Int32.toNatClampNeg v1)) = Int32.toInt (1 : Int32) := fun h => w1 (Int32.toInt_inj.mp h); have q_w2 := congrArg Int32.toInt w2; omega)) dX5_errorOf_84 ?_
        refine lv_iconst (v := (3 : Int32)) hx hb dX5_errorOf_85 (by decide) ?_
        refine lv_idiv hx hb dX5_errorOf_86 (by decide) ?_
        refine lv_iadd hx hb dX5_errorOf_87 ?_
        exact hret ((((4 : Int32) + ((m_tired (Int32.toNatClampNeg v2)) / (20 : Int32))) - ((m_skillOf (Int32.toNatClampNeg v2)) / (2 : Int32))) + ((m_height (Int32.toNatClampNeg v1)) / (3 : Int32))) () _ _ _ _ hF.symm rfl hP hD hS dX5_errorOf_88
      · rw [if_neg w2] at hF
        by_cases w3 : (m_kind (Int32.toNatClampNeg v1)) = (3 : Int32)
        · rw [if_pos w3] at hF
          refine lv_tableIn (tgt := 89) hx hb dX5_errorOf_36 (by rw [w3]; decide) (by rw [w3]; decide) (by rw [w3]; rfl) (by decide) ?_
          refine lv_iload hx hb dX5_errorOf_89 (lv_at hl 0 rfl) ?_
          refine lv_iconst (v := (1 : Int32)) hx hb dX5_errorOf_91 (by decide) ?_
          refine lv_iadd hx hb dX5_errorOf_92 ?_
          refine lv_iconst (v := (2 : Int32)) hx hb dX5_errorOf_93 (by decide) ?_
          refine lv_idiv hx hb dX5_errorOf_94 (by decide) ?_
          exact hret (((((4 : Int32) + ((m_tired (Int32.toNatClampNeg v2)) / (20 : Int32))) - ((m_skillOf (Int32.toNatClampNeg v2)) / (2 : Int32))) + (1 : Int32)) / (2 : Int32)) () _ _ _ _ hF.symm rfl hP hD hS dX5_errorOf_95
        · rw [if_neg w3] at hF
          by_cases w4 : (m_kind (Int32.toNatClampNeg v1)) = (4 : Int32)
          · rw [if_pos w4] at hF
            refine lv_tableIn (tgt := 96) hx hb dX5_errorOf_36 (by rw [w4]; decide) (by rw [w4]; decide) (by rw [w4]; rfl) (by decide) ?_
            refine lv_iload hx hb dX5_errorOf_96 (lv_at hl 0 rfl) ?_
            refine lv_aload_n hx hb dX5_errorOf_98 rfl (lv_at hl 1 rfl) ?_
            refine gf_X5_7 (v := .ref z_height) hx hb ht hown hK hP 0 rfl (ht _ wm_76) rfl dX5_errorOf_99 ?_
            refine lv_iload_n hx hb dX5_errorOf_102 rfl (lv_at hl 2 rfl) ?_
            refine va_iald hx hb hK hP 8 0 rfl rfl (vp_of (by have zl_0 : (0 : Int32).toInt = 0 := (by decide); have zl_1 : (1 : Int32).toInt = 1 := (by decide); have zl_2 : (2 : Int32).toInt = 2 := (by decide); have zl_3 : (20 : Int32).toInt = 20 := (by decide); have zl_4 : (3 : Int32).toInt = 3 := (by decide); have zl_5 : (4 : Int32).toInt = 4 := (by decide); have p_h_v1 := vp_to h_v1; have p_h_v2 := vp_to h_v2; have q_c24 := Int32.le_iff_toInt_le.mp c24; have q_w1 : ¬ Int32.toInt (m_kind (Int32.toNatClampNeg v1)) = Int32.toInt (1 : Int32) := fun h => w1 (Int32.toInt_inj.mp h); have q_w2 : ¬ Int32.toInt (m_kind (Int32.toNatClampNeg v1)) = Int32.toInt (2 : Int32) := fun h => w2 (Int32.toInt_inj.mp h); have q_w3 : ¬ Int32.toInt (m_kind (Int32.toNatClampNeg v1)) = Int32.toInt (3 : Int32) := fun h => w3 (Int32.toInt_inj.mp h); have q_w4 := congrArg Int32.toInt w4; omega)) dX5_errorOf_103 ?_
            refine lv_iconst (v := (3 : Int32)) hx hb dX5_errorOf_104 (by decide) ?_
            refine lv_idiv hx hb dX5_errorOf_105 (by decide) ?_
            refine lv_iadd hx hb dX5_errorOf_106 ?_
            refine lv_aload_n hx hb dX5_errorOf_107 rfl (lv_at hl 1 rfl) ?_
            refine gf_X5_6 (v := .ref z_figure) hx hb ht hown hK hP 0 rfl (ht _ wm_75) rfl dX5_errorOf_108 ?_
            refine lv_iload_n hx hb dX5_errorOf_111 rfl (lv_at hl 2 rfl) ?_
            refine va_iald hx hb hK hP 7 0 rfl rfl (vp_of (by have zl_0 : (0 : Int32).toInt = 0 := (by decide); have zl_1 : (1 : Int32).toInt = 1 := (by decide); have zl_2 : (2 : Int32).toInt = 2 := (by decide); have zl_3 : (20 : Int32).toInt = 20 := (by decide); have zl_4 : (3 : Int32).toInt = 3 := (by decide); have zl_5 : (4 : Int32).toInt = 4 := (by decide); have p_h_v1 := vp_to h_v1; have p_h_v2 := vp_to h_v2; have q_c24 := Int32.le_iff_toInt_le.mp c24; have q_w1 : ¬ Int32.toInt (m_kind (Int32.toNatClampNeg v1)) = Int32.toInt (1 : Int32) := fun h => w1 (Int32.toInt_inj.mp h); have q_w2 : ¬ Int32.toInt (m_kind (Int32.toNatClampNeg v1)) = Int32.toInt (2 : Int32) := fun h => w2 (Int32.toInt_inj.mp h); have q_w3 : ¬ Int32.toInt (m_kind (Int32.toNatClampNeg v1)) = Int32.toInt (3 : Int32) := fun h => w3 (Int32.toInt_inj.mp h); have q_w4 := congrArg Int32.toInt w4; omega)) dX5_errorOf_112 ?_
            refine lv_iconst (v := (4 : Int32)) hx hb dX5_errorOf_113 (by decide) ?_
            refine lv_idiv hx hb dX5_errorOf_114 (by decide) ?_
            refine lv_iadd hx hb dX5_errorOf_115 ?_
            exact hret (((((4 : Int32) + ((m_tired (Int32.toNatClampNeg v2)) / (20 : Int32))) - ((m_skillOf (Int32.toNatClampNeg v2)) / (2 : Int32))) + ((m_height (Int32.toNatClampNeg v1)) / (3 : Int32))) + ((m_figure (Int32.toNatClampNeg v1)) / (4 : Int32))) () _ _ _ _ hF.symm rfl hP hD hS dX5_errorOf_116
          · rw [if_neg w4] at hF
            by_cases w5 : (m_kind (Int32.toNatClampNeg v1)) = (5 : Int32)
            · rw [if_pos w5] at hF
              refine lv_tableIn (tgt := 117) hx hb dX5_errorOf_36 (by rw [w5]; decide) (by rw [w5]; decide) (by rw [w5]; rfl) (by decide) ?_
              refine lv_iload_n hx hb dX5_errorOf_117 rfl (lv_at hl 3 rfl) ?_
              refine lv_iload_n hx hb dX5_errorOf_118 rfl (lv_at hl 4 rfl) ?_
              refine lv_icmp_ne (tgt := 129) hx hb dX5_errorOf_119 (by decide) (fun c119 => ?_) (fun c119 => ?_)
              · rw [if_neg c119] at hF
                refine lv_iload hx hb dX5_errorOf_129 (lv_at hl 0 rfl) ?_
                exact hret (((4 : Int32) + ((m_tired (Int32.toNatClampNeg v2)) / (20 : Int32))) - ((m_skillOf (Int32.toNatClampNeg v2)) / (2 : Int32))) () _ _ _ _ hF.symm rfl hP hD hS dX5_errorOf_131
              · rw [if_pos c119] at hF
                refine lv_iload hx hb dX5_errorOf_122 (lv_at hl 0 rfl) ?_
                refine lv_iconst (v := (2 : Int32)) hx hb dX5_errorOf_124 (by decide) ?_
                refine lv_iadd hx hb dX5_errorOf_125 ?_
                refine lv_goto (tgt := 131) hx hb dX5_errorOf_126 (by decide) ?_
                exact hret ((((4 : Int32) + ((m_tired (Int32.toNatClampNeg v2)) / (20 : Int32))) - ((m_skillOf (Int32.toNatClampNeg v2)) / (2 : Int32))) + (2 : Int32)) () _ _ _ _ hF.symm rfl hP hD hS dX5_errorOf_131
            · rw [if_neg w5] at hF
              refine lv_tableOut (tgt := 132) hx hb dX5_errorOf_36 (by have q_w1 := lv_neT w1 (a := 1) rfl; have q_w2 := lv_neT w2 (a := 2) rfl; have q_w3 := lv_neT w3 (a := 3) rfl; have q_w4 := lv_neT w4 (a := 4) rfl; have q_w5 := lv_neT w5 (a := 5) rfl; omega) (by decide) ?_
              refine lv_iload hx hb dX5_errorOf_132 (lv_at hl 0 rfl) ?_
              exact hret (((4 : Int32) + ((m_tired (Int32.toNatClampNeg v2)) / (20 : Int32))) - ((m_skillOf (Int32.toNatClampNeg v2)) / (2 : Int32))) () _ _ _ _ hF.symm rfl hP hD hS dX5_errorOf_134
  · rw [if_neg c24] at hF
    refine lv_iconst (v := (0 : Int32)) hx hb dX5_errorOf_27 (by decide) ?_
    refine lv_istore (lv' := [(4, .int (0 : Int32)), (0, .ref zL), (1, .int v1), (2, .int v2), (3, .int v3)]) hx hb dX5_errorOf_28 hl (by decide) rfl (fun ls hl => ?_)
    refine lv_aload_n hx hb dX5_errorOf_30 rfl (lv_at hl 1 rfl) ?_
    refine gf_X5_5 (v := .ref z_kind) hx hb ht hown hK hP 0 rfl (ht _ wm_74) rfl dX5_errorOf_31 ?_
    refine lv_iload_n hx hb dX5_errorOf_34 rfl (lv_at hl 2 rfl) ?_
    refine va_iald hx hb hK hP 6 0 rfl rfl (vp_of (by have zl_0 : (0 : Int32).toInt = 0 := (by decide); have zl_1 : (2 : Int32).toInt = 2 := (by decide); have zl_2 : (20 : Int32).toInt = 20 := (by decide); have zl_3 : (4 : Int32).toInt = 4 := (by decide); have p_h_v1 := vp_to h_v1; have p_h_v2 := vp_to h_v2; have q_c24 := mt Int32.le_iff_toInt_le.mpr c24; have i_c24 := inc_nle c24; omega)) dX5_errorOf_35 ?_
    by_cases w6 : (m_kind (Int32.toNatClampNeg v1)) = (1 : Int32)
    · rw [if_pos w6] at hF
      refine lv_tableIn (tgt := 72) hx hb dX5_errorOf_36 (by rw [w6]; decide) (by rw [w6]; decide) (by rw [w6]; rfl) (by decide) ?_
      refine lv_iload hx hb dX5_errorOf_72 (lv_at hl 0 rfl) ?_
      refine lv_iconst (v := (1 : Int32)) hx hb dX5_errorOf_74 (by decide) ?_
      refine lv_iadd hx hb dX5_errorOf_75 ?_
      exact hret ((0 : Int32) + (1 : Int32)) () _ _ _ _ hF.symm rfl hP hD hS dX5_errorOf_76
    · rw [if_neg w6] at hF
      by_cases w7 : (m_kind (Int32.toNatClampNeg v1)) = (2 : Int32)
      · rw [if_pos w7] at hF
        refine lv_tableIn (tgt := 77) hx hb dX5_errorOf_36 (by rw [w7]; decide) (by rw [w7]; decide) (by rw [w7]; rfl) (by decide) ?_
        refine lv_iload hx hb dX5_errorOf_77 (lv_at hl 0 rfl) ?_
        refine lv_aload_n hx hb dX5_errorOf_79 rfl (lv_at hl 1 rfl) ?_
        refine gf_X5_7 (v := .ref z_height) hx hb ht hown hK hP 0 rfl (ht _ wm_76) rfl dX5_errorOf_80 ?_
        refine lv_iload_n hx hb dX5_errorOf_83 rfl (lv_at hl 2 rfl) ?_
        refine va_iald hx hb hK hP 8 0 rfl rfl (vp_of (by have zl_0 : (0 : Int32).toInt = 0 := (by decide); have zl_1 : (1 : Int32).toInt = 1 := (by decide); have zl_2 : (2 : Int32).toInt = 2 := (by decide); have zl_3 : (20 : Int32).toInt = 20 := (by decide); have zl_4 : (4 : Int32).toInt = 4 := (by decide); have p_h_v1 := vp_to h_v1; have p_h_v2 := vp_to h_v2; have q_c24 := mt Int32.le_iff_toInt_le.mpr c24; have i_c24 := inc_nle c24; have q_w6 : ¬ Int32.toInt (m_kind (Int32.toNatClampNeg v1)) = Int32.toInt (1 : Int32) := fun h => w6 (Int32.toInt_inj.mp h); have q_w7 := congrArg Int32.toInt w7; omega)) dX5_errorOf_84 ?_
        refine lv_iconst (v := (3 : Int32)) hx hb dX5_errorOf_85 (by decide) ?_
        refine lv_idiv hx hb dX5_errorOf_86 (by decide) ?_
        refine lv_iadd hx hb dX5_errorOf_87 ?_
        exact hret ((0 : Int32) + ((m_height (Int32.toNatClampNeg v1)) / (3 : Int32))) () _ _ _ _ hF.symm rfl hP hD hS dX5_errorOf_88
      · rw [if_neg w7] at hF
        by_cases w8 : (m_kind (Int32.toNatClampNeg v1)) = (3 : Int32)
        · rw [if_pos w8] at hF
          refine lv_tableIn (tgt := 89) hx hb dX5_errorOf_36 (by rw [w8]; decide) (by rw [w8]; decide) (by rw [w8]; rfl) (by decide) ?_
          refine lv_iload hx hb dX5_errorOf_89 (lv_at hl 0 rfl) ?_
          refine lv_iconst (v := (1 : Int32)) hx hb dX5_errorOf_91 (by decide) ?_
          refine lv_iadd hx hb dX5_errorOf_92 ?_
          refine lv_iconst (v := (2 : Int32)) hx hb dX5_errorOf_93 (by decide) ?_
          refine lv_idiv hx hb dX5_errorOf_94 (by decide) ?_
          exact hret (((0 : Int32) + (1 : Int32)) / (2 : Int32)) () _ _ _ _ hF.symm rfl hP hD hS dX5_errorOf_95
        · rw [if_neg w8] at hF
          by_cases w9 : (m_kind (Int32.toNatClampNeg v1)) = (4 : Int32)
          · rw [if_pos w9] at hF
            refine lv_tableIn (tgt := 96) hx hb dX5_errorOf_36 (by rw [w9]; decide) (by rw [w9]; decide) (by rw [w9]; rfl) (by decide) ?_
            refine lv_iload hx hb dX5_errorOf_96 (lv_at hl 0 rfl) ?_
            refine lv_aload_n hx hb dX5_errorOf_98 rfl (lv_at hl 1 rfl) ?_
            refine gf_X5_7 (v := .ref z_height) hx hb ht hown hK hP 0 rfl (ht _ wm_76) rfl dX5_errorOf_99 ?_
            refine lv_iload_n hx hb dX5_errorOf_102 rfl (lv_at hl 2 rfl) ?_
            refine va_iald hx hb hK hP 8 0 rfl rfl (vp_of (by have zl_0 : (0 : Int32).toInt = 0 := (by decide); have zl_1 : (1 : Int32).toInt = 1 := (by decide); have zl_2 : (2 : Int32).toInt = 2 := (by decide); have zl_3 : (20 : Int32).toInt = 20 := (by decide); have zl_4 : (3 : Int32).toInt = 3 := (by decide); have zl_5 : (4 : Int32).toInt = 4 := (by decide); have p_h_v1 := vp_to h_v1; have p_h_v2 := vp_to h_v2; have q_c24 := mt Int32.le_iff_toInt_le.mpr c24; have i_c24 := inc_nle c24; have q_w6 : ¬ Int32.toInt (m_kind (Int32.toNatClampNeg v1)) = Int32.toInt (1 : Int32) := fun h => w6 (Int32.toInt_inj.mp h); have q_w7 : ¬ Int32.toInt (m_kind (Int32.toNatClampNeg v1)) = Int32.toInt (2 : Int32) := fun h => w7 (Int32.toInt_inj.mp h); have q_w8 : ¬ Int32.toInt (m_kind (Int32.toNatClampNeg v1)) = Int32.toInt (3 : Int32) := fun h => w8 (Int32.toInt_inj.mp h); have q_w9 := congrArg Int32.toInt w9; omega)) dX5_errorOf_103 ?_
            refine lv_iconst (v := (3 : Int32)) hx hb dX5_errorOf_104 (by decide) ?_
            refine lv_idiv hx hb dX5_errorOf_105 (by decide) ?_
            refine lv_iadd hx hb dX5_errorOf_106 ?_
            refine lv_aload_n hx hb dX5_errorOf_107 rfl (lv_at hl 1 rfl) ?_
            refine gf_X5_6 (v := .ref z_figure) hx hb ht hown hK hP 0 rfl (ht _ wm_75) rfl dX5_errorOf_108 ?_
            refine lv_iload_n hx hb dX5_errorOf_111 rfl (lv_at hl 2 rfl) ?_
            refine va_iald hx hb hK hP 7 0 rfl rfl (vp_of (by have zl_0 : (0 : Int32).toInt = 0 := (by decide); have zl_1 : (1 : Int32).toInt = 1 := (by decide); have zl_2 : (2 : Int32).toInt = 2 := (by decide); have zl_3 : (20 : Int32).toInt = 20 := (by decide); have zl_4 : (3 : Int32).toInt = 3 := (by decide); have zl_5 : (4 : Int32).toInt = 4 := (by decide); have p_h_v1 := vp_to h_v1; have p_h_v2 := vp_to h_v2; have q_c24 := mt Int32.le_iff_toInt_le.mpr c24; have i_c24 := inc_nle c24; have q_w6 : ¬ Int32.toInt (m_kind (Int32.toNatClampNeg v1)) = Int32.toInt (1 : Int32) := fun h => w6 (Int32.toInt_inj.mp h); have q_w7 : ¬ Int32.toInt (m_kind (Int32.toNatClampNeg v1)) = Int32.toInt (2 : Int32) := fun h => w7 (Int32.toInt_inj.mp h); have q_w8 : ¬ Int32.toInt (m_kind (Int32.toNatClampNeg v1)) = Int32.toInt (3 : Int32) := fun h => w8 (Int32.toInt_inj.mp h); have q_w9 := congrArg Int32.toInt w9; omega)) dX5_errorOf_112 ?_
            refine lv_iconst (v := (4 : Int32)) hx hb dX5_errorOf_113 (by decide) ?_
            refine lv_idiv hx hb dX5_errorOf_114 (by decide) ?_
            refine lv_iadd hx hb dX5_errorOf_115 ?_
            exact hret (((0 : Int32) + ((m_height (Int32.toNatClampNeg v1)) / (3 : Int32))) + ((m_figure (Int32.toNatClampNeg v1)) / (4 : Int32))) () _ _ _ _ hF.symm rfl hP hD hS dX5_errorOf_116
          · rw [if_neg w9] at hF
            by_cases w10 : (m_kind (Int32.toNatClampNeg v1)) = (5 : Int32)
            · rw [if_pos w10] at hF
              refine lv_tableIn (tgt := 117) hx hb dX5_errorOf_36 (by rw [w10]; decide) (by rw [w10]; decide) (by rw [w10]; rfl) (by decide) ?_
              refine lv_iload_n hx hb dX5_errorOf_117 rfl (lv_at hl 3 rfl) ?_
              refine lv_iload_n hx hb dX5_errorOf_118 rfl (lv_at hl 4 rfl) ?_
              refine lv_icmp_ne (tgt := 129) hx hb dX5_errorOf_119 (by decide) (fun c119 => ?_) (fun c119 => ?_)
              · rw [if_neg c119] at hF
                refine lv_iload hx hb dX5_errorOf_129 (lv_at hl 0 rfl) ?_
                exact hret (0 : Int32) () _ _ _ _ hF.symm rfl hP hD hS dX5_errorOf_131
              · rw [if_pos c119] at hF
                refine lv_iload hx hb dX5_errorOf_122 (lv_at hl 0 rfl) ?_
                refine lv_iconst (v := (2 : Int32)) hx hb dX5_errorOf_124 (by decide) ?_
                refine lv_iadd hx hb dX5_errorOf_125 ?_
                refine lv_goto (tgt := 131) hx hb dX5_errorOf_126 (by decide) ?_
                exact hret ((0 : Int32) + (2 : Int32)) () _ _ _ _ hF.symm rfl hP hD hS dX5_errorOf_131
            · rw [if_neg w10] at hF
              refine lv_tableOut (tgt := 132) hx hb dX5_errorOf_36 (by have q_w6 := lv_neT w6 (a := 1) rfl; have q_w7 := lv_neT w7 (a := 2) rfl; have q_w8 := lv_neT w8 (a := 3) rfl; have q_w9 := lv_neT w9 (a := 4) rfl; have q_w10 := lv_neT w10 (a := 5) rfl; omega) (by decide) ?_
              refine lv_iload hx hb dX5_errorOf_132 (lv_at hl 0 rfl) ?_
              exact hret (0 : Int32) () _ _ _ _ hF.symm rfl hP hD hS dX5_errorOf_134
def f_X5_driftOf (m_wind : Int32) (m_kind : Nat → Int32) (m_figure : Nat → Int32) (m_height : Nat → Int32) (v1 : Int32) : Int32 := (lt1 (f_X5_airOf m_kind m_height v1) (fun r1 => (if (m_kind (Int32.toNatClampNeg v1)) = (1 : Int32) then (0 : Int32) else (if (m_kind (Int32.toNatClampNeg v1)) = (2 : Int32) then ((2 : Int32) * ((m_wind * r1) / (4 : Int32))) else (if (m_kind (Int32.toNatClampNeg v1)) = (3 : Int32) then (0 : Int32) else (if (m_kind (Int32.toNatClampNeg v1)) = (4 : Int32) then (if ((m_figure (Int32.toNatClampNeg v1)) - (m_figure (Int32.toNatClampNeg v1)) / (2 : Int32) * (2 : Int32)) = (1 : Int32) then (((2 : Int32) * ((m_wind * r1) / (4 : Int32))) + (1 : Int32)) else (((2 : Int32) * ((m_wind * r1) / (4 : Int32))) + (-1 : Int32))) else (if (m_kind (Int32.toNatClampNeg v1)) = (5 : Int32) then (((m_wind * r1) / (4 : Int32)) / (2 : Int32)) else ((m_wind * r1) / (4 : Int32)))))))))
abbrev rm_X5_driftOf : Room := { frames := 1, cells := 0, slots := 0, locals := 22 }
noncomputable abbrev wd_X5_driftOf : List Cond := .code yX5_driftOf cX5_driftOf 3 (some .int) :: wsL_law
set_option maxHeartbeats 4000000 in
set_option maxRecDepth 100000 in
theorem c_X5_driftOf (l : Launch) (dC : Nat → ClassId) (dI : Nat → Nat → Nat) (cI cT : ClassId) (zL : Nat) (z_refused : Nat) (z_place : Nat) (z_pace : Nat) (z_skillOf : Nat) (z_tired : Nat) (z_kind : Nat) (z_figure : Nat) (z_height : Nat) (z_tape : Nat) (z_letter : Nat) (z_letterAt : Nat) (z_told : Nat) (z_stored : Nat) (z_row : Nat) (m_yards : Int32) (m_wind : Int32) (m_players : Int32) (m_touches : Int32) (m_holder : Int32) (m_kept : Int32) (m_taped : Int32) (m_at : Int32) (m_statements : Int32) (m_hasImage : Int32) (m_isKeeping : Int32) (m_cursor : Int32) (m_onUp : Int64) (m_onDown : Int64) (m_longMany : Int32) (m_longLeast : Int32) (m_rowMany : Int32) (m_lots : Int32) (m_refused : Nat → Int32) (m_place : Nat → Int32) (m_pace : Nat → Int32) (m_skillOf : Nat → Int32) (m_tired : Nat → Int32) (m_kind : Nat → Int32) (m_figure : Nat → Int32) (m_height : Nat → Int32) (m_tape : Nat → Int32) (m_letter : Nat → Int32) (m_letterAt : Nat → Int32) (m_told : Nat → Int32) (m_stored : Nat → Int32) (m_row : Nat → Int32) (pl : va_W) (v1 : Int32) (h_v1 : vp_in v1 6) : CtI l (dC, dI) cI cT yX5_driftOf wd_X5_driftOf rm_X5_driftOf [.ref zL, .int v1] (W_model cI cT zL z_refused z_place z_pace z_skillOf z_tired z_kind z_figure z_height z_tape z_letter z_letterAt z_told z_stored z_row m_yards m_wind m_players m_touches m_holder m_kept m_taped m_at m_statements m_hasImage m_isKeeping m_cursor m_onUp m_onDown m_longMany m_longLeast m_rowMany m_lots m_refused m_place m_pace m_skillOf m_tired m_kind m_figure m_height m_tape m_letter m_letterAt m_told m_stored m_row ++ pl) (fun (r : Int32) (_ : Unit) => f_X5_driftOf m_wind m_kind m_figure m_height v1 = r) (fun _ => W_model cI cT zL z_refused z_place z_pace z_skillOf z_tired z_kind z_figure z_height z_tape z_letter z_letterAt z_told z_stored z_row m_yards m_wind m_players m_touches m_holder m_kept m_taped m_at m_statements m_hasImage m_isKeeping m_cursor m_onUp m_onDown m_longMany m_longLeast m_rowMany m_lots m_refused m_place m_pace m_skillOf m_tired m_kind m_figure m_height m_tape m_letter m_letterAt m_told m_stored m_row ++ pl) 0 0 := by
  refine ct_i (cc := cX5_driftOf) (maxL := 3) (by decide) rfl (Nat.le_of_ble_eq_true rfl) ?_
  intro p e s m args below meth c A ls Q hx hb hml hts hown hmn hA hK hNS hP hD hS hl hret
  have ht : ∀ w ∈ wsL_law, w.before args s = true := fun w h => hts w (List.mem_cons_of_mem _ h)
  have hl : lv_has ls 3 [(0, .ref zL), (1, .int v1)] := hl
  generalize hF : f_X5_driftOf m_wind m_kind m_figure m_height v1 = F at hret
  unfold f_X5_driftOf at hF
  refine lv_aload_n hx hb dX5_driftOf_0 rfl (lv_at hl 0 rfl) ?_
  refine gf_X5_9 (v := .int m_wind) hx hb ht hown hK hP 0 rfl (ht _ wm_291) rfl dX5_driftOf_1 ?_
  refine lv_aload_n hx hb dX5_driftOf_4 rfl (lv_at hl 0 rfl) ?_
  refine lv_iload_n hx hb dX5_driftOf_5 rfl (lv_at hl 1 rfl) ?_
  refine kcF_i (rx := fun (_ : Unit) => W_model cI cT zL z_refused z_place z_pace z_skillOf z_tired z_kind z_figure z_height z_tape z_letter z_letterAt z_told z_stored z_row m_yards m_wind m_players m_touches m_holder m_kept m_taped m_at m_statements m_hasImage m_isKeeping m_cursor m_onUp m_onDown m_longMany m_longLeast m_rowMany m_lots m_refused m_place m_pace m_skillOf m_tired m_kind m_figure m_height m_tape m_letter m_letterAt m_told m_stored m_row) (pl1 := fun _ => pl) (va_runV (As := [.int v1]) (rest := [.int m_wind]) ⟨hx, hb, hml, hown, ht⟩ (c_X5_airOf l dC dI cI cT zL z_refused z_place z_pace z_skillOf z_tired z_kind z_figure z_height z_tape z_letter z_letterAt z_told z_stored z_row m_yards m_wind m_players m_touches m_holder m_kept m_taped m_at m_statements m_hasImage m_isKeeping m_cursor m_onUp m_onDown m_longMany m_longLeast m_rowMany m_lots m_refused m_place m_pace m_skillOf m_tired m_kind m_figure m_height m_tape m_letter m_letterAt m_told m_stored m_row pl v1 (vp_of (by have p_h_v1 := vp_to h_v1; omega)) _) (cwV 1 ht (gV wm_360 wm_361 wm_362 wm_5 wm_363) rfl rfl rfl dv_X5_airOf ⟨Nat.le_of_ble_eq_true rfl, Nat.le_of_ble_eq_true rfl⟩) (preV hK hNS hP hD (va_recv hK hP (ci := 5) (q0 := 0) rfl rfl)) rfl rfl hl.1 rfl (lv_room (Nat.le_of_ble_eq_true rfl)) dX5_driftOf_6 ⟨Nat.le_of_ble_eq_true rfl, Nat.le_of_ble_eq_true rfl⟩) hP hD hS hA (fun r1 _ H locs e1 hP hD hS => ?_)
  rw [e1, lt1_def] at hF
  have hP : va_P (dC, dI) vwCl (W_model cI cT zL z_refused z_place z_pace z_skillOf z_tired z_kind z_figure z_height z_tape z_letter z_letterAt z_told z_stored z_row m_yards m_wind m_players m_touches m_holder m_kept m_taped m_at m_statements m_hasImage m_isKeeping m_cursor m_onUp m_onDown m_longMany m_longLeast m_rowMany m_lots m_refused m_place m_pace m_skillOf m_tired m_kind m_figure m_height m_tape m_letter m_letterAt m_told m_stored m_row ++ pl) H := hP
  have hD : va_D A (W_model cI cT zL z_refused z_place z_pace z_skillOf z_tired z_kind z_figure z_height z_tape z_letter z_letterAt z_told z_stored z_row m_yards m_wind m_players m_touches m_holder m_kept m_taped m_at m_statements m_hasImage m_isKeeping m_cursor m_onUp m_onDown m_longMany m_longLeast m_rowMany m_lots m_refused m_place m_pace m_skillOf m_tired m_kind m_figure m_height m_tape m_letter m_letterAt m_told m_stored m_row ++ pl) := hD
  refine lv_imul hx hb dX5_driftOf_9 ?_
  refine lv_iconst (v := (4 : Int32)) hx hb dX5_driftOf_10 (by decide) ?_
  refine lv_idiv hx hb dX5_driftOf_11 (by decide) ?_
  refine lv_istore_n (lv' := [(2, .int ((m_wind * r1) / (4 : Int32))), (0, .ref zL), (1, .int v1)]) hx hb dX5_driftOf_12 rfl hl (by decide) rfl (fun ls hl => ?_)
  refine lv_aload_n hx hb dX5_driftOf_13 rfl (lv_at hl 1 rfl) ?_
  refine gf_X5_5 (v := .ref z_kind) hx hb ht hown hK hP 0 rfl (ht _ wm_74) rfl dX5_driftOf_14 ?_
  refine lv_iload_n hx hb dX5_driftOf_17 rfl (lv_at hl 2 rfl) ?_
  refine va_iald hx hb hK hP 6 0 rfl rfl (vp_of (by have p_h_v1 := vp_to h_v1; omega)) dX5_driftOf_18 ?_
  by_cases w2 : (m_kind (Int32.toNatClampNeg v1)) = (1 : Int32)
  · rw [if_pos w2] at hF
    refine lv_tableIn (tgt := 52) hx hb dX5_driftOf_19 (by rw [w2]; decide) (by rw [w2]; decide) (by rw [w2]; rfl) (by decide) ?_
    refine lv_iconst (v := (0 : Int32)) hx hb dX5_driftOf_52 (by decide) ?_
    exact hret (0 : Int32) () _ _ _ _ hF.symm rfl hP hD hS dX5_driftOf_53
  · rw [if_neg w2] at hF
    by_cases w3 : (m_kind (Int32.toNatClampNeg v1)) = (2 : Int32)
    · rw [if_pos w3] at hF
      refine lv_tableIn (tgt := 54) hx hb dX5_driftOf_19 (by rw [w3]; decide) (by rw [w3]; decide) (by rw [w3]; rfl) (by decide) ?_
      refine lv_iconst (v := (2 : Int32)) hx hb dX5_driftOf_54 (by decide) ?_
      refine lv_iload_n hx hb dX5_driftOf_55 rfl (lv_at hl 0 rfl) ?_
      refine lv_imul hx hb dX5_driftOf_56 ?_
      exact hret ((2 : Int32) * ((m_wind * r1) / (4 : Int32))) () _ _ _ _ hF.symm rfl hP hD hS dX5_driftOf_57
    · rw [if_neg w3] at hF
      by_cases w4 : (m_kind (Int32.toNatClampNeg v1)) = (3 : Int32)
      · rw [if_pos w4] at hF
        refine lv_tableIn (tgt := 52) hx hb dX5_driftOf_19 (by rw [w4]; decide) (by rw [w4]; decide) (by rw [w4]; rfl) (by decide) ?_
        refine lv_iconst (v := (0 : Int32)) hx hb dX5_driftOf_52 (by decide) ?_
        exact hret (0 : Int32) () _ _ _ _ hF.symm rfl hP hD hS dX5_driftOf_53
      · rw [if_neg w4] at hF
        by_cases w5 : (m_kind (Int32.toNatClampNeg v1)) = (4 : Int32)
        · rw [if_pos w5] at hF
          refine lv_tableIn (tgt := 58) hx hb dX5_driftOf_19 (by rw [w5]; decide) (by rw [w5]; decide) (by rw [w5]; rfl) (by decide) ?_
          refine lv_iconst (v := (2 : Int32)) hx hb dX5_driftOf_58 (by decide) ?_
          refine lv_iload_n hx hb dX5_driftOf_59 rfl (lv_at hl 0 rfl) ?_
          refine lv_imul hx hb dX5_driftOf_60 ?_
          refine lv_aload_n hx hb dX5_driftOf_61 rfl (lv_at hl 1 rfl) ?_
          refine gf_X5_6 (v := .ref z_figure) hx hb ht hown hK hP 0 rfl (ht _ wm_75) rfl dX5_driftOf_62 ?_
          refine lv_iload_n hx hb dX5_driftOf_65 rfl (lv_at hl 2 rfl) ?_
          refine va_iald hx hb hK hP 7 0 rfl rfl (vp_of (by have zl_0 : (1 : Int32).toInt = 1 := (by decide); have zl_1 : (2 : Int32).toInt = 2 := (by decide); have zl_2 : (3 : Int32).toInt = 3 := (by decide); have zl_3 : (4 : Int32).toInt = 4 := (by decide); have p_h_v1 := vp_to h_v1; have q_w2 : ¬ Int32.toInt (m_kind (Int32.toNatClampNeg v1)) = Int32.toInt (1 : Int32) := fun h => w2 (Int32.toInt_inj.mp h); have q_w3 : ¬ Int32.toInt (m_kind (Int32.toNatClampNeg v1)) = Int32.toInt (2 : Int32) := fun h => w3 (Int32.toInt_inj.mp h); have q_w4 : ¬ Int32.toInt (m_kind (Int32.toNatClampNeg v1)) = Int32.toInt (3 : Int32) := fun h => w4 (Int32.toInt_inj.mp h); have q_w5 := congrArg Int32.toInt w5; omega)) dX5_driftOf_66 ?_
          refine lv_iconst (v := (2 : Int32)) hx hb dX5_driftOf_67 (by decide) ?_
          refine lv_irem hx hb dX5_driftOf_68 (by decide) ?_
          refine lv_iconst (v := (1 : Int32)) hx hb dX5_driftOf_69 (by decide) ?_
          refine lv_icmp_ne (tgt := 77) hx hb dX5_driftOf_70 (by decide) (fun c70 => ?_) (fun c70 => ?_)
          · rw [if_neg c70] at hF
            refine lv_iconst (v := (-1 : Int32)) hx hb dX5_driftOf_77 (by decide) ?_
            refine lv_iadd hx hb dX5_driftOf_78 ?_
            exact hret (((2 : Int32) * ((m_wind * r1) / (4 : Int32))) + (-1 : Int32)) () _ _ _ _ hF.symm rfl hP hD hS dX5_driftOf_79
          · rw [if_pos c70] at hF
            refine lv_iconst (v := (1 : Int32)) hx hb dX5_driftOf_73 (by decide) ?_
            refine lv_goto (tgt := 78) hx hb dX5_driftOf_74 (by decide) ?_
            refine lv_iadd hx hb dX5_driftOf_78 ?_
            exact hret (((2 : Int32) * ((m_wind * r1) / (4 : Int32))) + (1 : Int32)) () _ _ _ _ hF.symm rfl hP hD hS dX5_driftOf_79
        · rw [if_neg w5] at hF
          by_cases w6 : (m_kind (Int32.toNatClampNeg v1)) = (5 : Int32)
          · rw [if_pos w6] at hF
            refine lv_tableIn (tgt := 80) hx hb dX5_driftOf_19 (by rw [w6]; decide) (by rw [w6]; decide) (by rw [w6]; rfl) (by decide) ?_
            refine lv_iload_n hx hb dX5_driftOf_80 rfl (lv_at hl 0 rfl) ?_
            refine lv_iconst (v := (2 : Int32)) hx hb dX5_driftOf_81 (by decide) ?_
            refine lv_idiv hx hb dX5_driftOf_82 (by decide) ?_
            exact hret (((m_wind * r1) / (4 : Int32)) / (2 : Int32)) () _ _ _ _ hF.symm rfl hP hD hS dX5_driftOf_83
          · rw [if_neg w6] at hF
            refine lv_tableOut (tgt := 84) hx hb dX5_driftOf_19 (by have q_w2 := lv_neT w2 (a := 1) rfl; have q_w3 := lv_neT w3 (a := 2) rfl; have q_w4 := lv_neT w4 (a := 3) rfl; have q_w5 := lv_neT w5 (a := 4) rfl; have q_w6 := lv_neT w6 (a := 5) rfl; omega) (by decide) ?_
            refine lv_iload_n hx hb dX5_driftOf_84 rfl (lv_at hl 0 rfl) ?_
            exact hret ((m_wind * r1) / (4 : Int32)) () _ _ _ _ hF.symm rfl hP hD hS dX5_driftOf_85
def f_X5_tiresOf (m_kind : Nat → Int32) (m_figure : Nat → Int32) (v1 : Int32) : Int32 := (if (m_kind (Int32.toNatClampNeg v1)) = (2 : Int32) then (2 : Int32) else (if (m_kind (Int32.toNatClampNeg v1)) = (3 : Int32) then (0 : Int32) else (if (m_kind (Int32.toNatClampNeg v1)) = (4 : Int32) then ((2 : Int32) + (m_figure (Int32.toNatClampNeg v1))) else (1 : Int32))))
abbrev rm_X5_tiresOf : Room := { frames := 0, cells := 0, slots := 0, locals := 0 }
noncomputable abbrev wd_X5_tiresOf : List Cond := .code yX5_tiresOf cX5_tiresOf 2 (some .int) :: wsL_law
set_option maxHeartbeats 4000000 in
set_option maxRecDepth 100000 in
theorem c_X5_tiresOf (l : Launch) (dC : Nat → ClassId) (dI : Nat → Nat → Nat) (cI cT : ClassId) (zL : Nat) (z_refused : Nat) (z_place : Nat) (z_pace : Nat) (z_skillOf : Nat) (z_tired : Nat) (z_kind : Nat) (z_figure : Nat) (z_height : Nat) (z_tape : Nat) (z_letter : Nat) (z_letterAt : Nat) (z_told : Nat) (z_stored : Nat) (z_row : Nat) (m_yards : Int32) (m_wind : Int32) (m_players : Int32) (m_touches : Int32) (m_holder : Int32) (m_kept : Int32) (m_taped : Int32) (m_at : Int32) (m_statements : Int32) (m_hasImage : Int32) (m_isKeeping : Int32) (m_cursor : Int32) (m_onUp : Int64) (m_onDown : Int64) (m_longMany : Int32) (m_longLeast : Int32) (m_rowMany : Int32) (m_lots : Int32) (m_refused : Nat → Int32) (m_place : Nat → Int32) (m_pace : Nat → Int32) (m_skillOf : Nat → Int32) (m_tired : Nat → Int32) (m_kind : Nat → Int32) (m_figure : Nat → Int32) (m_height : Nat → Int32) (m_tape : Nat → Int32) (m_letter : Nat → Int32) (m_letterAt : Nat → Int32) (m_told : Nat → Int32) (m_stored : Nat → Int32) (m_row : Nat → Int32) (pl : va_W) (v1 : Int32) (h_v1 : vp_in v1 6) : CtI l (dC, dI) cI cT yX5_tiresOf wd_X5_tiresOf rm_X5_tiresOf [.ref zL, .int v1] (W_model cI cT zL z_refused z_place z_pace z_skillOf z_tired z_kind z_figure z_height z_tape z_letter z_letterAt z_told z_stored z_row m_yards m_wind m_players m_touches m_holder m_kept m_taped m_at m_statements m_hasImage m_isKeeping m_cursor m_onUp m_onDown m_longMany m_longLeast m_rowMany m_lots m_refused m_place m_pace m_skillOf m_tired m_kind m_figure m_height m_tape m_letter m_letterAt m_told m_stored m_row ++ pl) (fun (r : Int32) (_ : Unit) => f_X5_tiresOf m_kind m_figure v1 = r) (fun _ => W_model cI cT zL z_refused z_place z_pace z_skillOf z_tired z_kind z_figure z_height z_tape z_letter z_letterAt z_told z_stored z_row m_yards m_wind m_players m_touches m_holder m_kept m_taped m_at m_statements m_hasImage m_isKeeping m_cursor m_onUp m_onDown m_longMany m_longLeast m_rowMany m_lots m_refused m_place m_pace m_skillOf m_tired m_kind m_figure m_height m_tape m_letter m_letterAt m_told m_stored m_row ++ pl) 0 0 := by
  refine ct_i (cc := cX5_tiresOf) (maxL := 2) (by decide) rfl (Nat.le_of_ble_eq_true rfl) ?_
  intro p e s m args below meth c A ls Q hx hb hml hts hown hmn hA hK hNS hP hD hS hl hret
  have ht : ∀ w ∈ wsL_law, w.before args s = true := fun w h => hts w (List.mem_cons_of_mem _ h)
  have hl : lv_has ls 2 [(0, .ref zL), (1, .int v1)] := hl
  generalize hF : f_X5_tiresOf m_kind m_figure v1 = F at hret
  unfold f_X5_tiresOf at hF
  refine lv_aload_n hx hb dX5_tiresOf_0 rfl (lv_at hl 0 rfl) ?_
  refine gf_X5_5 (v := .ref z_kind) hx hb ht hown hK hP 0 rfl (ht _ wm_74) rfl dX5_tiresOf_1 ?_
  refine lv_iload_n hx hb dX5_tiresOf_4 rfl (lv_at hl 1 rfl) ?_
  refine va_iald hx hb hK hP 6 0 rfl rfl (vp_of (by have p_h_v1 := vp_to h_v1; omega)) dX5_tiresOf_5 ?_
  refine lv_iconst (v := (2 : Int32)) hx hb dX5_tiresOf_6 (by decide) ?_
  refine lv_icmp_ne (tgt := 14) hx hb dX5_tiresOf_7 (by decide) (fun c7 => ?_) (fun c7 => ?_)
  · rw [if_neg c7] at hF
    refine lv_aload_n hx hb dX5_tiresOf_14 rfl (lv_at hl 0 rfl) ?_
    refine gf_X5_5 (v := .ref z_kind) hx hb ht hown hK hP 0 rfl (ht _ wm_74) rfl dX5_tiresOf_15 ?_
    refine lv_iload_n hx hb dX5_tiresOf_18 rfl (lv_at hl 1 rfl) ?_
    refine va_iald hx hb hK hP 6 0 rfl rfl (vp_of (by have zl_0 : (2 : Int32).toInt = 2 := (by decide); have p_h_v1 := vp_to h_v1; have q_c7 : ¬ Int32.toInt (m_kind (Int32.toNatClampNeg v1)) = Int32.toInt (2 : Int32) := fun h => c7 (Int32.toInt_inj.mp h); omega)) dX5_tiresOf_19 ?_
    refine lv_iconst (v := (3 : Int32)) hx hb dX5_tiresOf_20 (by decide) ?_
    refine lv_icmp_ne (tgt := 28) hx hb dX5_tiresOf_21 (by decide) (fun c21 => ?_) (fun c21 => ?_)
    · rw [if_neg c21] at hF
      refine lv_aload_n hx hb dX5_tiresOf_28 rfl (lv_at hl 0 rfl) ?_
      refine gf_X5_5 (v := .ref z_kind) hx hb ht hown hK hP 0 rfl (ht _ wm_74) rfl dX5_tiresOf_29 ?_
      refine lv_iload_n hx hb dX5_tiresOf_32 rfl (lv_at hl 1 rfl) ?_
      refine va_iald hx hb hK hP 6 0 rfl rfl (vp_of (by have zl_0 : (2 : Int32).toInt = 2 := (by decide); have zl_1 : (3 : Int32).toInt = 3 := (by decide); have p_h_v1 := vp_to h_v1; have q_c7 : ¬ Int32.toInt (m_kind (Int32.toNatClampNeg v1)) = Int32.toInt (2 : Int32) := fun h => c7 (Int32.toInt_inj.mp h); have q_c21 : ¬ Int32.toInt (m_kind (Int32.toNatClampNeg v1)) = Int32.toInt (3 : Int32) := fun h => c21 (Int32.toInt_inj.mp h); omega)) dX5_tiresOf_33 ?_
      refine lv_iconst (v := (4 : Int32)) hx hb dX5_tiresOf_34 (by decide) ?_
      refine lv_icmp_ne (tgt := 49) hx hb dX5_tiresOf_35 (by decide) (fun c35 => ?_) (fun c35 => ?_)
      · rw [if_neg c35] at hF
        refine lv_iconst (v := (1 : Int32)) hx hb dX5_tiresOf_49 (by decide) ?_
        exact hret (1 : Int32) () _ _ _ _ hF.symm rfl hP hD hS dX5_tiresOf_50
      · rw [if_pos c35] at hF
        refine lv_iconst (v := (2 : Int32)) hx hb dX5_tiresOf_38 (by decide) ?_
        refine lv_aload_n hx hb dX5_tiresOf_39 rfl (lv_at hl 0 rfl) ?_
        refine gf_X5_6 (v := .ref z_figure) hx hb ht hown hK hP 0 rfl (ht _ wm_75) rfl dX5_tiresOf_40 ?_
        refine lv_iload_n hx hb dX5_tiresOf_43 rfl (lv_at hl 1 rfl) ?_
        refine va_iald hx hb hK hP 7 0 rfl rfl (vp_of (by have zl_0 : (2 : Int32).toInt = 2 := (by decide); have zl_1 : (3 : Int32).toInt = 3 := (by decide); have zl_2 : (4 : Int32).toInt = 4 := (by decide); have p_h_v1 := vp_to h_v1; have q_c7 : ¬ Int32.toInt (m_kind (Int32.toNatClampNeg v1)) = Int32.toInt (2 : Int32) := fun h => c7 (Int32.toInt_inj.mp h); have q_c21 : ¬ Int32.toInt (m_kind (Int32.toNatClampNeg v1)) = Int32.toInt (3 : Int32) := fun h => c21 (Int32.toInt_inj.mp h); have q_c35 := congrArg Int32.toInt c35; omega)) dX5_tiresOf_44 ?_
        refine lv_iadd hx hb dX5_tiresOf_45 ?_
        refine lv_goto (tgt := 50) hx hb dX5_tiresOf_46 (by decide) ?_
        exact hret ((2 : Int32) + (m_figure (Int32.toNatClampNeg v1))) () _ _ _ _ hF.symm rfl hP hD hS dX5_tiresOf_50
    · rw [if_pos c21] at hF
      refine lv_iconst (v := (0 : Int32)) hx hb dX5_tiresOf_24 (by decide) ?_
      refine lv_goto (tgt := 50) hx hb dX5_tiresOf_25 (by decide) ?_
      exact hret (0 : Int32) () _ _ _ _ hF.symm rfl hP hD hS dX5_tiresOf_50
  · rw [if_pos c7] at hF
    refine lv_iconst (v := (2 : Int32)) hx hb dX5_tiresOf_10 (by decide) ?_
    refine lv_goto (tgt := 50) hx hb dX5_tiresOf_11 (by decide) ?_
    exact hret (2 : Int32) () _ _ _ _ hF.symm rfl hP hD hS dX5_tiresOf_50
def f_X5_player (m_players : Int32) (m_refused : Nat → Int32) (m_place : Nat → Int32) (m_pace : Nat → Int32) (m_skillOf : Nat → Int32) (m_tired : Nat → Int32) (v1 : Int32) (v2 : Int32) : Int32 × (Nat → Int32) := (lt1 (f_X5_isPlayer m_players v1) (fun r1 => (if r1 = (0 : Int32) then (lt2 (f_X5_no m_refused (-1 : Int32)) (fun r7 u7 => (r7, u7))) else (if v2 = (0 : Int32) then ((m_place (Int32.toNatClampNeg v1)), m_refused) else (if v2 = (1 : Int32) then ((m_pace (Int32.toNatClampNeg v1)), m_refused) else (if v2 = (2 : Int32) then ((m_skillOf (Int32.toNatClampNeg v1)), m_refused) else (if v2 = (3 : Int32) then ((m_tired (Int32.toNatClampNeg v1)), m_refused) else (lt2 (f_X5_no m_refused (-2 : Int32)) (fun r6 u6 => (r6, u6))))))))))
abbrev rm_X5_player : Room := { frames := 1, cells := 0, slots := 0, locals := 21 }
noncomputable abbrev wd_X5_player : List Cond := .code yX5_player cX5_player 3 (some .int) :: wsL_law
set_option maxHeartbeats 4000000 in
set_option maxRecDepth 100000 in
theorem c_X5_player (l : Launch) (dC : Nat → ClassId) (dI : Nat → Nat → Nat) (cI cT : ClassId) (zL : Nat) (z_refused : Nat) (z_place : Nat) (z_pace : Nat) (z_skillOf : Nat) (z_tired : Nat) (z_kind : Nat) (z_figure : Nat) (z_height : Nat) (z_tape : Nat) (z_letter : Nat) (z_letterAt : Nat) (z_told : Nat) (z_stored : Nat) (z_row : Nat) (m_yards : Int32) (m_wind : Int32) (m_players : Int32) (m_touches : Int32) (m_holder : Int32) (m_kept : Int32) (m_taped : Int32) (m_at : Int32) (m_statements : Int32) (m_hasImage : Int32) (m_isKeeping : Int32) (m_cursor : Int32) (m_onUp : Int64) (m_onDown : Int64) (m_longMany : Int32) (m_longLeast : Int32) (m_rowMany : Int32) (m_lots : Int32) (m_refused : Nat → Int32) (m_place : Nat → Int32) (m_pace : Nat → Int32) (m_skillOf : Nat → Int32) (m_tired : Nat → Int32) (m_kind : Nat → Int32) (m_figure : Nat → Int32) (m_height : Nat → Int32) (m_tape : Nat → Int32) (m_letter : Nat → Int32) (m_letterAt : Nat → Int32) (m_told : Nat → Int32) (m_stored : Nat → Int32) (m_row : Nat → Int32) (pl : va_W) (v1 : Int32) (v2 : Int32) (hmp : 0 ≤ m_players.toInt ∧ m_players.toInt ≤ 5) : CtI l (dC, dI) cI cT yX5_player wd_X5_player rm_X5_player [.ref zL, .int v1, .int v2] (W_model cI cT zL z_refused z_place z_pace z_skillOf z_tired z_kind z_figure z_height z_tape z_letter z_letterAt z_told z_stored z_row m_yards m_wind m_players m_touches m_holder m_kept m_taped m_at m_statements m_hasImage m_isKeeping m_cursor m_onUp m_onDown m_longMany m_longLeast m_rowMany m_lots m_refused m_place m_pace m_skillOf m_tired m_kind m_figure m_height m_tape m_letter m_letterAt m_told m_stored m_row ++ pl) (fun (r : Int32) (u : (Nat → Int32)) => f_X5_player m_players m_refused m_place m_pace m_skillOf m_tired v1 v2 = (r, u)) (fun u => W_model cI cT zL z_refused z_place z_pace z_skillOf z_tired z_kind z_figure z_height z_tape z_letter z_letterAt z_told z_stored z_row m_yards m_wind m_players m_touches m_holder m_kept m_taped m_at m_statements m_hasImage m_isKeeping m_cursor m_onUp m_onDown m_longMany m_longLeast m_rowMany m_lots u m_place m_pace m_skillOf m_tired m_kind m_figure m_height m_tape m_letter m_letterAt m_told m_stored m_row ++ pl) 0 0 := by
  refine ct_i (cc := cX5_player) (maxL := 3) (by decide) rfl (Nat.le_of_ble_eq_true rfl) ?_
  intro p e s m args below meth c A ls Q hx hb hml hts hown hmn hA hK hNS hP hD hS hl hret
  have ht : ∀ w ∈ wsL_law, w.before args s = true := fun w h => hts w (List.mem_cons_of_mem _ h)
  have hl : lv_has ls 3 [(0, .ref zL), (1, .int v1), (2, .int v2)] := hl
  generalize hF : f_X5_player m_players m_refused m_place m_pace m_skillOf m_tired v1 v2 = F at hret
  unfold f_X5_player at hF
  refine lv_aload_n hx hb dX5_player_0 rfl (lv_at hl 0 rfl) ?_
  refine lv_iload_n hx hb dX5_player_1 rfl (lv_at hl 1 rfl) ?_
  refine kcF_i (rx := fun (_ : Unit) => W_model cI cT zL z_refused z_place z_pace z_skillOf z_tired z_kind z_figure z_height z_tape z_letter z_letterAt z_told z_stored z_row m_yards m_wind m_players m_touches m_holder m_kept m_taped m_at m_statements m_hasImage m_isKeeping m_cursor m_onUp m_onDown m_longMany m_longLeast m_rowMany m_lots m_refused m_place m_pace m_skillOf m_tired m_kind m_figure m_height m_tape m_letter m_letterAt m_told m_stored m_row) (pl1 := fun _ => pl) (va_runV (As := [.int v1]) (rest := []) ⟨hx, hb, hml, hown, ht⟩ (c_X5_isPlayer l dC dI cI cT zL z_refused z_place z_pace z_skillOf z_tired z_kind z_figure z_height z_tape z_letter z_letterAt z_told z_stored z_row m_yards m_wind m_players m_touches m_holder m_kept m_taped m_at m_statements m_hasImage m_isKeeping m_cursor m_onUp m_onDown m_longMany m_longLeast m_rowMany m_lots m_refused m_place m_pace m_skillOf m_tired m_kind m_figure m_height m_tape m_letter m_letterAt m_told m_stored m_row pl v1 _) (cwV 1 ht (gV wm_323 wm_324 wm_325 wm_5 wm_326) rfl rfl rfl dv_X5_isPlayer ⟨Nat.le_of_ble_eq_true rfl, Nat.le_of_ble_eq_true rfl⟩) (preV hK hNS hP hD (va_recv hK hP (ci := 5) (q0 := 0) rfl rfl)) rfl rfl hl.1 rfl (lv_room (Nat.le_of_ble_eq_true rfl)) dX5_player_2 ⟨Nat.le_of_ble_eq_true rfl, Nat.le_of_ble_eq_true rfl⟩) hP hD hS hA (fun r1 _ H locs e1 hP hD hS => ?_)
  obtain ⟨e1, ze1⟩ := e1
  rw [e1, lt1_def] at hF
  have hP : va_P (dC, dI) vwCl (W_model cI cT zL z_refused z_place z_pace z_skillOf z_tired z_kind z_figure z_height z_tape z_letter z_letterAt z_told z_stored z_row m_yards m_wind m_players m_touches m_holder m_kept m_taped m_at m_statements m_hasImage m_isKeeping m_cursor m_onUp m_onDown m_longMany m_longLeast m_rowMany m_lots m_refused m_place m_pace m_skillOf m_tired m_kind m_figure m_height m_tape m_letter m_letterAt m_told m_stored m_row ++ pl) H := hP
  have hD : va_D A (W_model cI cT zL z_refused z_place z_pace z_skillOf z_tired z_kind z_figure z_height z_tape z_letter z_letterAt z_told z_stored z_row m_yards m_wind m_players m_touches m_holder m_kept m_taped m_at m_statements m_hasImage m_isKeeping m_cursor m_onUp m_onDown m_longMany m_longLeast m_rowMany m_lots m_refused m_place m_pace m_skillOf m_tired m_kind m_figure m_height m_tape m_letter m_letterAt m_told m_stored m_row ++ pl) := hD
  refine lv_if_ne (tgt := 14) hx hb dX5_player_5 (by decide) (fun c5 => ?_) (fun c5 => ?_)
  · rw [if_neg c5] at hF
    refine lv_iload_n hx hb dX5_player_14 rfl (lv_at hl 2 rfl) ?_
    by_cases w2 : v2 = (0 : Int32)
    · rw [if_pos w2] at hF
      refine lv_tableIn (tgt := 44) hx hb dX5_player_15 (by rw [w2]; decide) (by rw [w2]; decide) (by rw [w2]; rfl) (by decide) ?_
      refine lv_aload_n hx hb dX5_player_44 rfl (lv_at hl 0 rfl) ?_
      refine gf_X5_1 (v := .ref z_place) hx hb ht hown hK hP 0 rfl (ht _ wm_70) rfl dX5_player_45 ?_
      refine lv_iload_n hx hb dX5_player_48 rfl (lv_at hl 1 rfl) ?_
      refine va_iald hx hb hK hP 2 0 rfl rfl (vp_of (by have zl_0 : (0 : Int32).toInt = 0 := (by decide); have q_c5 : ¬ Int32.toInt r1 = Int32.toInt (0 : Int32) := fun h => c5 (Int32.toInt_inj.mp h); have q_w2 := congrArg Int32.toInt w2; have f_c5 := mPlayer_t e1 c5; omega)) dX5_player_49 ?_
      exact hret (m_place (Int32.toNatClampNeg v1)) m_refused _ _ _ _ hF.symm rfl hP hD hS dX5_player_50
    · rw [if_neg w2] at hF
      by_cases w3 : v2 = (1 : Int32)
      · rw [if_pos w3] at hF
        refine lv_tableIn (tgt := 51) hx hb dX5_player_15 (by rw [w3]; decide) (by rw [w3]; decide) (by rw [w3]; rfl) (by decide) ?_
        refine lv_aload_n hx hb dX5_player_51 rfl (lv_at hl 0 rfl) ?_
        refine gf_X5_2 (v := .ref z_pace) hx hb ht hown hK hP 0 rfl (ht _ wm_71) rfl dX5_player_52 ?_
        refine lv_iload_n hx hb dX5_player_55 rfl (lv_at hl 1 rfl) ?_
        refine va_iald hx hb hK hP 3 0 rfl rfl (vp_of (by have zl_0 : (0 : Int32).toInt = 0 := (by decide); have zl_1 : (1 : Int32).toInt = 1 := (by decide); have q_c5 : ¬ Int32.toInt r1 = Int32.toInt (0 : Int32) := fun h => c5 (Int32.toInt_inj.mp h); have q_w2 : ¬ Int32.toInt v2 = Int32.toInt (0 : Int32) := fun h => w2 (Int32.toInt_inj.mp h); have q_w3 := congrArg Int32.toInt w3; have f_c5 := mPlayer_t e1 c5; omega)) dX5_player_56 ?_
        exact hret (m_pace (Int32.toNatClampNeg v1)) m_refused _ _ _ _ hF.symm rfl hP hD hS dX5_player_57
      · rw [if_neg w3] at hF
        by_cases w4 : v2 = (2 : Int32)
        · rw [if_pos w4] at hF
          refine lv_tableIn (tgt := 58) hx hb dX5_player_15 (by rw [w4]; decide) (by rw [w4]; decide) (by rw [w4]; rfl) (by decide) ?_
          refine lv_aload_n hx hb dX5_player_58 rfl (lv_at hl 0 rfl) ?_
          refine gf_X5_3 (v := .ref z_skillOf) hx hb ht hown hK hP 0 rfl (ht _ wm_72) rfl dX5_player_59 ?_
          refine lv_iload_n hx hb dX5_player_62 rfl (lv_at hl 1 rfl) ?_
          refine va_iald hx hb hK hP 4 0 rfl rfl (vp_of (by have zl_0 : (0 : Int32).toInt = 0 := (by decide); have zl_1 : (1 : Int32).toInt = 1 := (by decide); have zl_2 : (2 : Int32).toInt = 2 := (by decide); have q_c5 : ¬ Int32.toInt r1 = Int32.toInt (0 : Int32) := fun h => c5 (Int32.toInt_inj.mp h); have q_w2 : ¬ Int32.toInt v2 = Int32.toInt (0 : Int32) := fun h => w2 (Int32.toInt_inj.mp h); have q_w3 : ¬ Int32.toInt v2 = Int32.toInt (1 : Int32) := fun h => w3 (Int32.toInt_inj.mp h); have q_w4 := congrArg Int32.toInt w4; have f_c5 := mPlayer_t e1 c5; omega)) dX5_player_63 ?_
          exact hret (m_skillOf (Int32.toNatClampNeg v1)) m_refused _ _ _ _ hF.symm rfl hP hD hS dX5_player_64
        · rw [if_neg w4] at hF
          by_cases w5 : v2 = (3 : Int32)
          · rw [if_pos w5] at hF
            refine lv_tableIn (tgt := 65) hx hb dX5_player_15 (by rw [w5]; decide) (by rw [w5]; decide) (by rw [w5]; rfl) (by decide) ?_
            refine lv_aload_n hx hb dX5_player_65 rfl (lv_at hl 0 rfl) ?_
            refine gf_X5_4 (v := .ref z_tired) hx hb ht hown hK hP 0 rfl (ht _ wm_73) rfl dX5_player_66 ?_
            refine lv_iload_n hx hb dX5_player_69 rfl (lv_at hl 1 rfl) ?_
            refine va_iald hx hb hK hP 5 0 rfl rfl (vp_of (by have zl_0 : (0 : Int32).toInt = 0 := (by decide); have zl_1 : (1 : Int32).toInt = 1 := (by decide); have zl_2 : (2 : Int32).toInt = 2 := (by decide); have zl_3 : (3 : Int32).toInt = 3 := (by decide); have q_c5 : ¬ Int32.toInt r1 = Int32.toInt (0 : Int32) := fun h => c5 (Int32.toInt_inj.mp h); have q_w2 : ¬ Int32.toInt v2 = Int32.toInt (0 : Int32) := fun h => w2 (Int32.toInt_inj.mp h); have q_w3 : ¬ Int32.toInt v2 = Int32.toInt (1 : Int32) := fun h => w3 (Int32.toInt_inj.mp h); have q_w4 : ¬ Int32.toInt v2 = Int32.toInt (2 : Int32) := fun h => w4 (Int32.toInt_inj.mp h); have q_w5 := congrArg Int32.toInt w5; have f_c5 := mPlayer_t e1 c5; omega)) dX5_player_70 ?_
            exact hret (m_tired (Int32.toNatClampNeg v1)) m_refused _ _ _ _ hF.symm rfl hP hD hS dX5_player_71
          · rw [if_neg w5] at hF
            refine lv_tableOut (tgt := 72) hx hb dX5_player_15 (by have q_w2 := lv_neT w2 (a := 0) rfl; have q_w3 := lv_neT w3 (a := 1) rfl; have q_w4 := lv_neT w4 (a := 2) rfl; have q_w5 := lv_neT w5 (a := 3) rfl; omega) (by decide) ?_
            refine lv_aload_n hx hb dX5_player_72 rfl (lv_at hl 0 rfl) ?_
            refine lv_bipush (v := (-2 : Int32)) hx hb dX5_player_73 (by decide) ?_
            refine kcF_i (rx := fun (u : (Nat → Int32)) => W_model cI cT zL z_refused z_place z_pace z_skillOf z_tired z_kind z_figure z_height z_tape z_letter z_letterAt z_told z_stored z_row m_yards m_wind m_players m_touches m_holder m_kept m_taped m_at m_statements m_hasImage m_isKeeping m_cursor m_onUp m_onDown m_longMany m_longLeast m_rowMany m_lots u m_place m_pace m_skillOf m_tired m_kind m_figure m_height m_tape m_letter m_letterAt m_told m_stored m_row) (pl1 := fun _ => pl) (va_runV (As := [.int (-2 : Int32)]) (rest := []) ⟨hx, hb, hml, hown, ht⟩ (c_X5_no l dC dI cI cT zL z_refused z_place z_pace z_skillOf z_tired z_kind z_figure z_height z_tape z_letter z_letterAt z_told z_stored z_row m_yards m_wind m_players m_touches m_holder m_kept m_taped m_at m_statements m_hasImage m_isKeeping m_cursor m_onUp m_onDown m_longMany m_longLeast m_rowMany m_lots m_refused m_place m_pace m_skillOf m_tired m_kind m_figure m_height m_tape m_letter m_letterAt m_told m_stored m_row pl (-2 : Int32) (vp_of (by decide)) _) (cwV 1 ht (gV wm_104 wm_105 wm_106 wm_5 wm_107) rfl rfl rfl dv_X5_no ⟨Nat.le_of_ble_eq_true rfl, Nat.le_of_ble_eq_true rfl⟩) (preV hK hNS hP hD (va_recv hK hP (ci := 5) (q0 := 0) rfl rfl)) rfl rfl hl.1 rfl (lv_room (Nat.le_of_ble_eq_true rfl)) dX5_player_75 ⟨Nat.le_of_ble_eq_true rfl, Nat.le_of_ble_eq_true rfl⟩) hP hD hS hA (fun r6 u6 H locs e6 hP hD hS => ?_)
            rw [e6, lt2_def] at hF
            have hP : va_P (dC, dI) vwCl (W_model cI cT zL z_refused z_place z_pace z_skillOf z_tired z_kind z_figure z_height z_tape z_letter z_letterAt z_told z_stored z_row m_yards m_wind m_players m_touches m_holder m_kept m_taped m_at m_statements m_hasImage m_isKeeping m_cursor m_onUp m_onDown m_longMany m_longLeast m_rowMany m_lots u6 m_place m_pace m_skillOf m_tired m_kind m_figure m_height m_tape m_letter m_letterAt m_told m_stored m_row ++ pl) H := hP
            have hD : va_D A (W_model cI cT zL z_refused z_place z_pace z_skillOf z_tired z_kind z_figure z_height z_tape z_letter z_letterAt z_told z_stored z_row m_yards m_wind m_players m_touches m_holder m_kept m_taped m_at m_statements m_hasImage m_isKeeping m_cursor m_onUp m_onDown m_longMany m_longLeast m_rowMany m_lots u6 m_place m_pace m_skillOf m_tired m_kind m_figure m_height m_tape m_letter m_letterAt m_told m_stored m_row ++ pl) := hD
            exact hret r6 u6 _ _ _ _ hF.symm rfl hP hD hS dX5_player_78
  · rw [if_pos c5] at hF
    refine lv_aload_n hx hb dX5_player_8 rfl (lv_at hl 0 rfl) ?_
    refine lv_iconst (v := (-1 : Int32)) hx hb dX5_player_9 (by decide) ?_
    refine kcF_i (rx := fun (u : (Nat → Int32)) => W_model cI cT zL z_refused z_place z_pace z_skillOf z_tired z_kind z_figure z_height z_tape z_letter z_letterAt z_told z_stored z_row m_yards m_wind m_players m_touches m_holder m_kept m_taped m_at m_statements m_hasImage m_isKeeping m_cursor m_onUp m_onDown m_longMany m_longLeast m_rowMany m_lots u m_place m_pace m_skillOf m_tired m_kind m_figure m_height m_tape m_letter m_letterAt m_told m_stored m_row) (pl1 := fun _ => pl) (va_runV (As := [.int (-1 : Int32)]) (rest := []) ⟨hx, hb, hml, hown, ht⟩ (c_X5_no l dC dI cI cT zL z_refused z_place z_pace z_skillOf z_tired z_kind z_figure z_height z_tape z_letter z_letterAt z_told z_stored z_row m_yards m_wind m_players m_touches m_holder m_kept m_taped m_at m_statements m_hasImage m_isKeeping m_cursor m_onUp m_onDown m_longMany m_longLeast m_rowMany m_lots m_refused m_place m_pace m_skillOf m_tired m_kind m_figure m_height m_tape m_letter m_letterAt m_told m_stored m_row pl (-1 : Int32) (vp_of (by decide)) _) (cwV 1 ht (gV wm_104 wm_105 wm_106 wm_5 wm_107) rfl rfl rfl dv_X5_no ⟨Nat.le_of_ble_eq_true rfl, Nat.le_of_ble_eq_true rfl⟩) (preV hK hNS hP hD (va_recv hK hP (ci := 5) (q0 := 0) rfl rfl)) rfl rfl hl.1 rfl (lv_room (Nat.le_of_ble_eq_true rfl)) dX5_player_10 ⟨Nat.le_of_ble_eq_true rfl, Nat.le_of_ble_eq_true rfl⟩) hP hD hS hA (fun r7 u7 H locs e7 hP hD hS => ?_)
    rw [e7, lt2_def] at hF
    have hP : va_P (dC, dI) vwCl (W_model cI cT zL z_refused z_place z_pace z_skillOf z_tired z_kind z_figure z_height z_tape z_letter z_letterAt z_told z_stored z_row m_yards m_wind m_players m_touches m_holder m_kept m_taped m_at m_statements m_hasImage m_isKeeping m_cursor m_onUp m_onDown m_longMany m_longLeast m_rowMany m_lots u7 m_place m_pace m_skillOf m_tired m_kind m_figure m_height m_tape m_letter m_letterAt m_told m_stored m_row ++ pl) H := hP
    have hD : va_D A (W_model cI cT zL z_refused z_place z_pace z_skillOf z_tired z_kind z_figure z_height z_tape z_letter z_letterAt z_told z_stored z_row m_yards m_wind m_players m_touches m_holder m_kept m_taped m_at m_statements m_hasImage m_isKeeping m_cursor m_onUp m_onDown m_longMany m_longLeast m_rowMany m_lots u7 m_place m_pace m_skillOf m_tired m_kind m_figure m_height m_tape m_letter m_letterAt m_told m_stored m_row ++ pl) := hD
    exact hret r7 u7 _ _ _ _ hF.symm rfl hP hD hS dX5_player_13
def f_X5_touch (m_wind : Int32) (m_touches : Int32) (m_refused : Nat → Int32) (m_kind : Nat → Int32) (m_figure : Nat → Int32) (m_height : Nat → Int32) (v1 : Int32) (v2 : Int32) : Int32 × (Nat → Int32) := (lt1 (f_X5_isTouch m_touches v1) (fun r1 => (if r1 = (0 : Int32) then (lt2 (f_X5_no m_refused (-1 : Int32)) (fun r12 u12 => (r12, u12))) else (if v2 = (0 : Int32) then ((m_kind (Int32.toNatClampNeg v1)), m_refused) else (if v2 = (1 : Int32) then ((m_figure (Int32.toNatClampNeg v1)), m_refused) else (if v2 = (2 : Int32) then ((m_height (Int32.toNatClampNeg v1)), m_refused) else (if v2 = (3 : Int32) then (lt1 (f_X5_airOf m_kind m_height v1) (fun r6 => (r6, m_refused))) else (if v2 = (4 : Int32) then (lt1 (f_X5_driftOf m_wind m_kind m_figure m_height v1) (fun r8 => (((10 : Int32) + r8), m_refused))) else (if v2 = (5 : Int32) then (lt1 (f_X5_tiresOf m_kind m_figure v1) (fun r10 => (r10, m_refused))) else (lt2 (f_X5_no m_refused (-2 : Int32)) (fun r11 u11 => (r11, u11))))))))))))
abbrev rm_X5_touch : Room := { frames := 2, cells := 0, slots := 0, locals := 44 }
noncomputable abbrev wd_X5_touch : List Cond := .code yX5_touch cX5_touch 3 (some .int) :: wsL_law
set_option maxHeartbeats 4000000 in
set_option maxRecDepth 100000 in
theorem c_X5_touch (l : Launch) (dC : Nat → ClassId) (dI : Nat → Nat → Nat) (cI cT : ClassId) (zL : Nat) (z_refused : Nat) (z_place : Nat) (z_pace : Nat) (z_skillOf : Nat) (z_tired : Nat) (z_kind : Nat) (z_figure : Nat) (z_height : Nat) (z_tape : Nat) (z_letter : Nat) (z_letterAt : Nat) (z_told : Nat) (z_stored : Nat) (z_row : Nat) (m_yards : Int32) (m_wind : Int32) (m_players : Int32) (m_touches : Int32) (m_holder : Int32) (m_kept : Int32) (m_taped : Int32) (m_at : Int32) (m_statements : Int32) (m_hasImage : Int32) (m_isKeeping : Int32) (m_cursor : Int32) (m_onUp : Int64) (m_onDown : Int64) (m_longMany : Int32) (m_longLeast : Int32) (m_rowMany : Int32) (m_lots : Int32) (m_refused : Nat → Int32) (m_place : Nat → Int32) (m_pace : Nat → Int32) (m_skillOf : Nat → Int32) (m_tired : Nat → Int32) (m_kind : Nat → Int32) (m_figure : Nat → Int32) (m_height : Nat → Int32) (m_tape : Nat → Int32) (m_letter : Nat → Int32) (m_letterAt : Nat → Int32) (m_told : Nat → Int32) (m_stored : Nat → Int32) (m_row : Nat → Int32) (pl : va_W) (v1 : Int32) (v2 : Int32) (hmt : 0 ≤ m_touches.toInt ∧ m_touches.toInt ≤ 6) : CtI l (dC, dI) cI cT yX5_touch wd_X5_touch rm_X5_touch [.ref zL, .int v1, .int v2] (W_model cI cT zL z_refused z_place z_pace z_skillOf z_tired z_kind z_figure z_height z_tape z_letter z_letterAt z_told z_stored z_row m_yards m_wind m_players m_touches m_holder m_kept m_taped m_at m_statements m_hasImage m_isKeeping m_cursor m_onUp m_onDown m_longMany m_longLeast m_rowMany m_lots m_refused m_place m_pace m_skillOf m_tired m_kind m_figure m_height m_tape m_letter m_letterAt m_told m_stored m_row ++ pl) (fun (r : Int32) (u : (Nat → Int32)) => f_X5_touch m_wind m_touches m_refused m_kind m_figure m_height v1 v2 = (r, u)) (fun u => W_model cI cT zL z_refused z_place z_pace z_skillOf z_tired z_kind z_figure z_height z_tape z_letter z_letterAt z_told z_stored z_row m_yards m_wind m_players m_touches m_holder m_kept m_taped m_at m_statements m_hasImage m_isKeeping m_cursor m_onUp m_onDown m_longMany m_longLeast m_rowMany m_lots u m_place m_pace m_skillOf m_tired m_kind m_figure m_height m_tape m_letter m_letterAt m_told m_stored m_row ++ pl) 0 0 := by
  refine ct_i (cc := cX5_touch) (maxL := 3) (by decide) rfl (Nat.le_of_ble_eq_true rfl) ?_
  intro p e s m args below meth c A ls Q hx hb hml hts hown hmn hA hK hNS hP hD hS hl hret
  have ht : ∀ w ∈ wsL_law, w.before args s = true := fun w h => hts w (List.mem_cons_of_mem _ h)
  have hl : lv_has ls 3 [(0, .ref zL), (1, .int v1), (2, .int v2)] := hl
  generalize hF : f_X5_touch m_wind m_touches m_refused m_kind m_figure m_height v1 v2 = F at hret
  unfold f_X5_touch at hF
  refine lv_aload_n hx hb dX5_touch_0 rfl (lv_at hl 0 rfl) ?_
  refine lv_iload_n hx hb dX5_touch_1 rfl (lv_at hl 1 rfl) ?_
  refine kcF_i (rx := fun (_ : Unit) => W_model cI cT zL z_refused z_place z_pace z_skillOf z_tired z_kind z_figure z_height z_tape z_letter z_letterAt z_told z_stored z_row m_yards m_wind m_players m_touches m_holder m_kept m_taped m_at m_statements m_hasImage m_isKeeping m_cursor m_onUp m_onDown m_longMany m_longLeast m_rowMany m_lots m_refused m_place m_pace m_skillOf m_tired m_kind m_figure m_height m_tape m_letter m_letterAt m_told m_stored m_row) (pl1 := fun _ => pl) (va_runV (As := [.int v1]) (rest := []) ⟨hx, hb, hml, hown, ht⟩ (c_X5_isTouch l dC dI cI cT zL z_refused z_place z_pace z_skillOf z_tired z_kind z_figure z_height z_tape z_letter z_letterAt z_told z_stored z_row m_yards m_wind m_players m_touches m_holder m_kept m_taped m_at m_statements m_hasImage m_isKeeping m_cursor m_onUp m_onDown m_longMany m_longLeast m_rowMany m_lots m_refused m_place m_pace m_skillOf m_tired m_kind m_figure m_height m_tape m_letter m_letterAt m_told m_stored m_row pl v1 _) (cwV 1 ht (gV wm_356 wm_357 wm_358 wm_5 wm_359) rfl rfl rfl dv_X5_isTouch ⟨Nat.le_of_ble_eq_true rfl, Nat.le_of_ble_eq_true rfl⟩) (preV hK hNS hP hD (va_recv hK hP (ci := 5) (q0 := 0) rfl rfl)) rfl rfl hl.1 rfl (lv_room (Nat.le_of_ble_eq_true rfl)) dX5_touch_2 ⟨Nat.le_of_ble_eq_true rfl, Nat.le_of_ble_eq_true rfl⟩) hP hD hS hA (fun r1 _ H locs e1 hP hD hS => ?_)
  obtain ⟨e1, ze1⟩ := e1
  rw [e1, lt1_def] at hF
  have hP : va_P (dC, dI) vwCl (W_model cI cT zL z_refused z_place z_pace z_skillOf z_tired z_kind z_figure z_height z_tape z_letter z_letterAt z_told z_stored z_row m_yards m_wind m_players m_touches m_holder m_kept m_taped m_at m_statements m_hasImage m_isKeeping m_cursor m_onUp m_onDown m_longMany m_longLeast m_rowMany m_lots m_refused m_place m_pace m_skillOf m_tired m_kind m_figure m_height m_tape m_letter m_letterAt m_told m_stored m_row ++ pl) H := hP
  have hD : va_D A (W_model cI cT zL z_refused z_place z_pace z_skillOf z_tired z_kind z_figure z_height z_tape z_letter z_letterAt z_told z_stored z_row m_yards m_wind m_players m_touches m_holder m_kept m_taped m_at m_statements m_hasImage m_isKeeping m_cursor m_onUp m_onDown m_longMany m_longLeast m_rowMany m_lots m_refused m_place m_pace m_skillOf m_tired m_kind m_figure m_height m_tape m_letter m_letterAt m_told m_stored m_row ++ pl) := hD
  refine lv_if_ne (tgt := 14) hx hb dX5_touch_5 (by decide) (fun c5 => ?_) (fun c5 => ?_)
  · rw [if_neg c5] at hF
    refine lv_iload_n hx hb dX5_touch_14 rfl (lv_at hl 2 rfl) ?_
    by_cases w2 : v2 = (0 : Int32)
    · rw [if_pos w2] at hF
      refine lv_tableIn (tgt := 52) hx hb dX5_touch_15 (by rw [w2]; decide) (by rw [w2]; decide) (by rw [w2]; rfl) (by decide) ?_
      refine lv_aload_n hx hb dX5_touch_52 rfl (lv_at hl 0 rfl) ?_
      refine gf_X5_5 (v := .ref z_kind) hx hb ht hown hK hP 0 rfl (ht _ wm_74) rfl dX5_touch_53 ?_
      refine lv_iload_n hx hb dX5_touch_56 rfl (lv_at hl 1 rfl) ?_
      refine va_iald hx hb hK hP 6 0 rfl rfl (vp_of (by have zl_0 : (0 : Int32).toInt = 0 := (by decide); have q_c5 : ¬ Int32.toInt r1 = Int32.toInt (0 : Int32) := fun h => c5 (Int32.toInt_inj.mp h); have q_w2 := congrArg Int32.toInt w2; have f_c5 := mTouch_t e1 c5; omega)) dX5_touch_57 ?_
      exact hret (m_kind (Int32.toNatClampNeg v1)) m_refused _ _ _ _ hF.symm rfl hP hD hS dX5_touch_58
    · rw [if_neg w2] at hF
      by_cases w3 : v2 = (1 : Int32)
      · rw [if_pos w3] at hF
        refine lv_tableIn (tgt := 59) hx hb dX5_touch_15 (by rw [w3]; decide) (by rw [w3]; decide) (by rw [w3]; rfl) (by decide) ?_
        refine lv_aload_n hx hb dX5_touch_59 rfl (lv_at hl 0 rfl) ?_
        refine gf_X5_6 (v := .ref z_figure) hx hb ht hown hK hP 0 rfl (ht _ wm_75) rfl dX5_touch_60 ?_
        refine lv_iload_n hx hb dX5_touch_63 rfl (lv_at hl 1 rfl) ?_
        refine va_iald hx hb hK hP 7 0 rfl rfl (vp_of (by have zl_0 : (0 : Int32).toInt = 0 := (by decide); have zl_1 : (1 : Int32).toInt = 1 := (by decide); have q_c5 : ¬ Int32.toInt r1 = Int32.toInt (0 : Int32) := fun h => c5 (Int32.toInt_inj.mp h); have q_w2 : ¬ Int32.toInt v2 = Int32.toInt (0 : Int32) := fun h => w2 (Int32.toInt_inj.mp h); have q_w3 := congrArg Int32.toInt w3; have f_c5 := mTouch_t e1 c5; omega)) dX5_touch_64 ?_
        exact hret (m_figure (Int32.toNatClampNeg v1)) m_refused _ _ _ _ hF.symm rfl hP hD hS dX5_touch_65
      · rw [if_neg w3] at hF
        by_cases w4 : v2 = (2 : Int32)
        · rw [if_pos w4] at hF
          refine lv_tableIn (tgt := 66) hx hb dX5_touch_15 (by rw [w4]; decide) (by rw [w4]; decide) (by rw [w4]; rfl) (by decide) ?_
          refine lv_aload_n hx hb dX5_touch_66 rfl (lv_at hl 0 rfl) ?_
          refine gf_X5_7 (v := .ref z_height) hx hb ht hown hK hP 0 rfl (ht _ wm_76) rfl dX5_touch_67 ?_
          refine lv_iload_n hx hb dX5_touch_70 rfl (lv_at hl 1 rfl) ?_
          refine va_iald hx hb hK hP 8 0 rfl rfl (vp_of (by have zl_0 : (0 : Int32).toInt = 0 := (by decide); have zl_1 : (1 : Int32).toInt = 1 := (by decide); have zl_2 : (2 : Int32).toInt = 2 := (by decide); have q_c5 : ¬ Int32.toInt r1 = Int32.toInt (0 : Int32) := fun h => c5 (Int32.toInt_inj.mp h); have q_w2 : ¬ Int32.toInt v2 = Int32.toInt (0 : Int32) := fun h => w2 (Int32.toInt_inj.mp h); have q_w3 : ¬ Int32.toInt v2 = Int32.toInt (1 : Int32) := fun h => w3 (Int32.toInt_inj.mp h); have q_w4 := congrArg Int32.toInt w4; have f_c5 := mTouch_t e1 c5; omega)) dX5_touch_71 ?_
          exact hret (m_height (Int32.toNatClampNeg v1)) m_refused _ _ _ _ hF.symm rfl hP hD hS dX5_touch_72
        · rw [if_neg w4] at hF
          by_cases w5 : v2 = (3 : Int32)
          · rw [if_pos w5] at hF
            refine lv_tableIn (tgt := 73) hx hb dX5_touch_15 (by rw [w5]; decide) (by rw [w5]; decide) (by rw [w5]; rfl) (by decide) ?_
            refine lv_aload_n hx hb dX5_touch_73 rfl (lv_at hl 0 rfl) ?_
            refine lv_iload_n hx hb dX5_touch_74 rfl (lv_at hl 1 rfl) ?_
            refine kcF_i (rx := fun (_ : Unit) => W_model cI cT zL z_refused z_place z_pace z_skillOf z_tired z_kind z_figure z_height z_tape z_letter z_letterAt z_told z_stored z_row m_yards m_wind m_players m_touches m_holder m_kept m_taped m_at m_statements m_hasImage m_isKeeping m_cursor m_onUp m_onDown m_longMany m_longLeast m_rowMany m_lots m_refused m_place m_pace m_skillOf m_tired m_kind m_figure m_height m_tape m_letter m_letterAt m_told m_stored m_row) (pl1 := fun _ => pl) (va_runV (As := [.int v1]) (rest := []) ⟨hx, hb, hml, hown, ht⟩ (c_X5_airOf l dC dI cI cT zL z_refused z_place z_pace z_skillOf z_tired z_kind z_figure z_height z_tape z_letter z_letterAt z_told z_stored z_row m_yards m_wind m_players m_touches m_holder m_kept m_taped m_at m_statements m_hasImage m_isKeeping m_cursor m_onUp m_onDown m_longMany m_longLeast m_rowMany m_lots m_refused m_place m_pace m_skillOf m_tired m_kind m_figure m_height m_tape m_letter m_letterAt m_told m_stored m_row pl v1 (vp_of (by have zl_0 : (0 : Int32).toInt = 0 := (by decide); have zl_1 : (1 : Int32).toInt = 1 := (by decide); have zl_2 : (2 : Int32).toInt = 2 := (by decide); have zl_3 : (3 : Int32).toInt = 3 := (by decide); have q_c5 : ¬ Int32.toInt r1 = Int32.toInt (0 : Int32) := fun h => c5 (Int32.toInt_inj.mp h); have q_w2 : ¬ Int32.toInt v2 = Int32.toInt (0 : Int32) := fun h => w2 (Int32.toInt_inj.mp h); have q_w3 : ¬ Int32.toInt v2 = Int32.toInt (1 : Int32) := fun h => w3 (Int32.toInt_inj.mp h); have q_w4 : ¬ Int32.toInt v2 = Int32.toInt (2 : Int32) := fun h => w4 (Int32.toInt_inj.mp h); have q_w5 := congrArg Int32.toInt w5; have f_c5 := mTouch_t e1 c5; omega)) _) (cwV 1 ht (gV wm_360 wm_361 wm_362 wm_5 wm_363) rfl rfl rfl dv_X5_airOf ⟨Nat.le_of_ble_eq_true rfl, Nat.le_of_ble_eq_true rfl⟩) (preV hK hNS hP hD (va_recv hK hP (ci := 5) (q0 := 0) rfl rfl)) rfl rfl hl.1 rfl (lv_room (Nat.le_of_ble_eq_true rfl)) dX5_touch_75 ⟨Nat.le_of_ble_eq_true rfl, Nat.le_of_ble_eq_true rfl⟩) hP hD hS hA (fun r6 _ H locs e6 hP hD hS => ?_)
            rw [e6, lt1_def] at hF
            have hP : va_P (dC, dI) vwCl (W_model cI cT zL z_refused z_place z_pace z_skillOf z_tired z_kind z_figure z_height z_tape z_letter z_letterAt z_told z_stored z_row m_yards m_wind m_players m_touches m_holder m_kept m_taped m_at m_statements m_hasImage m_isKeeping m_cursor m_onUp m_onDown m_longMany m_longLeast m_rowMany m_lots m_refused m_place m_pace m_skillOf m_tired m_kind m_figure m_height m_tape m_letter m_letterAt m_told m_stored m_row ++ pl) H := hP
            have hD : va_D A (W_model cI cT zL z_refused z_place z_pace z_skillOf z_tired z_kind z_figure z_height z_tape z_letter z_letterAt z_told z_stored z_row m_yards m_wind m_players m_touches m_holder m_kept m_taped m_at m_statements m_hasImage m_isKeeping m_cursor m_onUp m_onDown m_longMany m_longLeast m_rowMany m_lots m_refused m_place m_pace m_skillOf m_tired m_kind m_figure m_height m_tape m_letter m_letterAt m_told m_stored m_row ++ pl) := hD
            exact hret r6 m_refused _ _ _ _ hF.symm rfl hP hD hS dX5_touch_78
          · rw [if_neg w5] at hF
            by_cases w7 : v2 = (4 : Int32)
            · rw [if_pos w7] at hF
              refine lv_tableIn (tgt := 79) hx hb dX5_touch_15 (by rw [w7]; decide) (by rw [w7]; decide) (by rw [w7]; rfl) (by decide) ?_
              refine lv_bipush (v := (10 : Int32)) hx hb dX5_touch_79 (by decide) ?_
              refine lv_aload_n hx hb dX5_touch_81 rfl (lv_at hl 0 rfl) ?_
              refine lv_iload_n hx hb dX5_touch_82 rfl (lv_at hl 1 rfl) ?_
              refine kcF_i (rx := fun (_ : Unit) => W_model cI cT zL z_refused z_place z_pace z_skillOf z_tired z_kind z_figure z_height z_tape z_letter z_letterAt z_told z_stored z_row m_yards m_wind m_players m_touches m_holder m_kept m_taped m_at m_statements m_hasImage m_isKeeping m_cursor m_onUp m_onDown m_longMany m_longLeast m_rowMany m_lots m_refused m_place m_pace m_skillOf m_tired m_kind m_figure m_height m_tape m_letter m_letterAt m_told m_stored m_row) (pl1 := fun _ => pl) (va_runV (As := [.int v1]) (rest := [.int (10 : Int32)]) ⟨hx, hb, hml, hown, ht⟩ (c_X5_driftOf l dC dI cI cT zL z_refused z_place z_pace z_skillOf z_tired z_kind z_figure z_height z_tape z_letter z_letterAt z_told z_stored z_row m_yards m_wind m_players m_touches m_holder m_kept m_taped m_at m_statements m_hasImage m_isKeeping m_cursor m_onUp m_onDown m_longMany m_longLeast m_rowMany m_lots m_refused m_place m_pace m_skillOf m_tired m_kind m_figure m_height m_tape m_letter m_letterAt m_told m_stored m_row pl v1 (vp_of (by have zl_0 : (0 : Int32).toInt = 0 := (by decide); have zl_1 : (1 : Int32).toInt = 1 := (by decide); have zl_2 : (2 : Int32).toInt = 2 := (by decide); have zl_3 : (3 : Int32).toInt = 3 := (by decide); have zl_4 : (4 : Int32).toInt = 4 := (by decide); have q_c5 : ¬ Int32.toInt r1 = Int32.toInt (0 : Int32) := fun h => c5 (Int32.toInt_inj.mp h); have q_w2 : ¬ Int32.toInt v2 = Int32.toInt (0 : Int32) := fun h => w2 (Int32.toInt_inj.mp h); have q_w3 : ¬ Int32.toInt v2 = Int32.toInt (1 : Int32) := fun h => w3 (Int32.toInt_inj.mp h); have q_w4 : ¬ Int32.toInt v2 = Int32.toInt (2 : Int32) := fun h => w4 (Int32.toInt_inj.mp h); have q_w5 : ¬ Int32.toInt v2 = Int32.toInt (3 : Int32) := fun h => w5 (Int32.toInt_inj.mp h); have q_w7 := congrArg Int32.toInt w7; have f_c5 := mTouch_t e1 c5; omega)) _) (cwV 1 ht (gV wm_364 wm_365 wm_366 wm_5 wm_367) rfl rfl rfl dv_X5_driftOf ⟨Nat.le_of_ble_eq_true rfl, Nat.le_of_ble_eq_true rfl⟩) (preV hK hNS hP hD (va_recv hK hP (ci := 5) (q0 := 0) rfl rfl)) rfl rfl hl.1 rfl (lv_room (Nat.le_of_ble_eq_true rfl)) dX5_touch_83 ⟨Nat.le_of_ble_eq_true rfl, Nat.le_of_ble_eq_true rfl⟩) hP hD hS hA (fun r8 _ H locs e8 hP hD hS => ?_)
              rw [e8, lt1_def] at hF
              have hP : va_P (dC, dI) vwCl (W_model cI cT zL z_refused z_place z_pace z_skillOf z_tired z_kind z_figure z_height z_tape z_letter z_letterAt z_told z_stored z_row m_yards m_wind m_players m_touches m_holder m_kept m_taped m_at m_statements m_hasImage m_isKeeping m_cursor m_onUp m_onDown m_longMany m_longLeast m_rowMany m_lots m_refused m_place m_pace m_skillOf m_tired m_kind m_figure m_height m_tape m_letter m_letterAt m_told m_stored m_row ++ pl) H := hP
              have hD : va_D A (W_model cI cT zL z_refused z_place z_pace z_skillOf z_tired z_kind z_figure z_height z_tape z_letter z_letterAt z_told z_stored z_row m_yards m_wind m_players m_touches m_holder m_kept m_taped m_at m_statements m_hasImage m_isKeeping m_cursor m_onUp m_onDown m_longMany m_longLeast m_rowMany m_lots m_refused m_place m_pace m_skillOf m_tired m_kind m_figure m_height m_tape m_letter m_letterAt m_told m_stored m_row ++ pl) := hD
              refine lv_iadd hx hb dX5_touch_86 ?_
              exact hret ((10 : Int32) + r8) m_refused _ _ _ _ hF.symm rfl hP hD hS dX5_touch_87
            · rw [if_neg w7] at hF
              by_cases w9 : v2 = (5 : Int32)
              · rw [if_pos w9] at hF
                refine lv_tableIn (tgt := 88) hx hb dX5_touch_15 (by rw [w9]; decide) (by rw [w9]; decide) (by rw [w9]; rfl) (by decide) ?_
                refine lv_aload_n hx hb dX5_touch_88 rfl (lv_at hl 0 rfl) ?_
                refine lv_iload_n hx hb dX5_touch_89 rfl (lv_at hl 1 rfl) ?_
                refine kcF_i (rx := fun (_ : Unit) => W_model cI cT zL z_refused z_place z_pace z_skillOf z_tired z_kind z_figure z_height z_tape z_letter z_letterAt z_told z_stored z_row m_yards m_wind m_players m_touches m_holder m_kept m_taped m_at m_statements m_hasImage m_isKeeping m_cursor m_onUp m_onDown m_longMany m_longLeast m_rowMany m_lots m_refused m_place m_pace m_skillOf m_tired m_kind m_figure m_height m_tape m_letter m_letterAt m_told m_stored m_row) (pl1 := fun _ => pl) (va_runV (As := [.int v1]) (rest := []) ⟨hx, hb, hml, hown, ht⟩ (c_X5_tiresOf l dC dI cI cT zL z_refused z_place z_pace z_skillOf z_tired z_kind z_figure z_height z_tape z_letter z_letterAt z_told z_stored z_row m_yards m_wind m_players m_touches m_holder m_kept m_taped m_at m_statements m_hasImage m_isKeeping m_cursor m_onUp m_onDown m_longMany m_longLeast m_rowMany m_lots m_refused m_place m_pace m_skillOf m_tired m_kind m_figure m_height m_tape m_letter m_letterAt m_told m_stored m_row pl v1 (vp_of (by have zl_0 : (0 : Int32).toInt = 0 := (by decide); have zl_1 : (1 : Int32).toInt = 1 := (by decide); have zl_2 : (2 : Int32).toInt = 2 := (by decide); have zl_3 : (3 : Int32).toInt = 3 := (by decide); have zl_4 : (4 : Int32).toInt = 4 := (by decide); have zl_5 : (5 : Int32).toInt = 5 := (by decide); have q_c5 : ¬ Int32.toInt r1 = Int32.toInt (0 : Int32) := fun h => c5 (Int32.toInt_inj.mp h); have q_w2 : ¬ Int32.toInt v2 = Int32.toInt (0 : Int32) := fun h => w2 (Int32.toInt_inj.mp h); have q_w3 : ¬ Int32.toInt v2 = Int32.toInt (1 : Int32) := fun h => w3 (Int32.toInt_inj.mp h); have q_w4 : ¬ Int32.toInt v2 = Int32.toInt (2 : Int32) := fun h => w4 (Int32.toInt_inj.mp h); have q_w5 : ¬ Int32.toInt v2 = Int32.toInt (3 : Int32) := fun h => w5 (Int32.toInt_inj.mp h); have q_w7 : ¬ Int32.toInt v2 = Int32.toInt (4 : Int32) := fun h => w7 (Int32.toInt_inj.mp h); have q_w9 := congrArg Int32.toInt w9; have f_c5 := mTouch_t e1 c5; omega)) _) (cwV 1 ht (gV wm_368 wm_369 wm_370 wm_5 wm_371) rfl rfl rfl dv_X5_tiresOf ⟨Nat.le_of_ble_eq_true rfl, Nat.le_of_ble_eq_true rfl⟩) (preV hK hNS hP hD (va_recv hK hP (ci := 5) (q0 := 0) rfl rfl)) rfl rfl hl.1 rfl (lv_room (Nat.le_of_ble_eq_true rfl)) dX5_touch_90 ⟨Nat.le_of_ble_eq_true rfl, Nat.le_of_ble_eq_true rfl⟩) hP hD hS hA (fun r10 _ H locs e10 hP hD hS => ?_)
                rw [e10, lt1_def] at hF
                have hP : va_P (dC, dI) vwCl (W_model cI cT zL z_refused z_place z_pace z_skillOf z_tired z_kind z_figure z_height z_tape z_letter z_letterAt z_told z_stored z_row m_yards m_wind m_players m_touches m_holder m_kept m_taped m_at m_statements m_hasImage m_isKeeping m_cursor m_onUp m_onDown m_longMany m_longLeast m_rowMany m_lots m_refused m_place m_pace m_skillOf m_tired m_kind m_figure m_height m_tape m_letter m_letterAt m_told m_stored m_row ++ pl) H := hP
                have hD : va_D A (W_model cI cT zL z_refused z_place z_pace z_skillOf z_tired z_kind z_figure z_height z_tape z_letter z_letterAt z_told z_stored z_row m_yards m_wind m_players m_touches m_holder m_kept m_taped m_at m_statements m_hasImage m_isKeeping m_cursor m_onUp m_onDown m_longMany m_longLeast m_rowMany m_lots m_refused m_place m_pace m_skillOf m_tired m_kind m_figure m_height m_tape m_letter m_letterAt m_told m_stored m_row ++ pl) := hD
                exact hret r10 m_refused _ _ _ _ hF.symm rfl hP hD hS dX5_touch_93
              · rw [if_neg w9] at hF
                refine lv_tableOut (tgt := 94) hx hb dX5_touch_15 (by have q_w2 := lv_neT w2 (a := 0) rfl; have q_w3 := lv_neT w3 (a := 1) rfl; have q_w4 := lv_neT w4 (a := 2) rfl; have q_w5 := lv_neT w5 (a := 3) rfl; have q_w7 := lv_neT w7 (a := 4) rfl; have q_w9 := lv_neT w9 (a := 5) rfl; omega) (by decide) ?_
                refine lv_aload_n hx hb dX5_touch_94 rfl (lv_at hl 0 rfl) ?_
                refine lv_bipush (v := (-2 : Int32)) hx hb dX5_touch_95 (by decide) ?_
                refine kcF_i (rx := fun (u : (Nat → Int32)) => W_model cI cT zL z_refused z_place z_pace z_skillOf z_tired z_kind z_figure z_height z_tape z_letter z_letterAt z_told z_stored z_row m_yards m_wind m_players m_touches m_holder m_kept m_taped m_at m_statements m_hasImage m_isKeeping m_cursor m_onUp m_onDown m_longMany m_longLeast m_rowMany m_lots u m_place m_pace m_skillOf m_tired m_kind m_figure m_height m_tape m_letter m_letterAt m_told m_stored m_row) (pl1 := fun _ => pl) (va_runV (As := [.int (-2 : Int32)]) (rest := []) ⟨hx, hb, hml, hown, ht⟩ (c_X5_no l dC dI cI cT zL z_refused z_place z_pace z_skillOf z_tired z_kind z_figure z_height z_tape z_letter z_letterAt z_told z_stored z_row m_yards m_wind m_players m_touches m_holder m_kept m_taped m_at m_statements m_hasImage m_isKeeping m_cursor m_onUp m_onDown m_longMany m_longLeast m_rowMany m_lots m_refused m_place m_pace m_skillOf m_tired m_kind m_figure m_height m_tape m_letter m_letterAt m_told m_stored m_row pl (-2 : Int32) (vp_of (by decide)) _) (cwV 1 ht (gV wm_104 wm_105 wm_106 wm_5 wm_107) rfl rfl rfl dv_X5_no ⟨Nat.le_of_ble_eq_true rfl, Nat.le_of_ble_eq_true rfl⟩) (preV hK hNS hP hD (va_recv hK hP (ci := 5) (q0 := 0) rfl rfl)) rfl rfl hl.1 rfl (lv_room (Nat.le_of_ble_eq_true rfl)) dX5_touch_97 ⟨Nat.le_of_ble_eq_true rfl, Nat.le_of_ble_eq_true rfl⟩) hP hD hS hA (fun r11 u11 H locs e11 hP hD hS => ?_)
                rw [e11, lt2_def] at hF
                have hP : va_P (dC, dI) vwCl (W_model cI cT zL z_refused z_place z_pace z_skillOf z_tired z_kind z_figure z_height z_tape z_letter z_letterAt z_told z_stored z_row m_yards m_wind m_players m_touches m_holder m_kept m_taped m_at m_statements m_hasImage m_isKeeping m_cursor m_onUp m_onDown m_longMany m_longLeast m_rowMany m_lots u11 m_place m_pace m_skillOf m_tired m_kind m_figure m_height m_tape m_letter m_letterAt m_told m_stored m_row ++ pl) H := hP
                have hD : va_D A (W_model cI cT zL z_refused z_place z_pace z_skillOf z_tired z_kind z_figure z_height z_tape z_letter z_letterAt z_told z_stored z_row m_yards m_wind m_players m_touches m_holder m_kept m_taped m_at m_statements m_hasImage m_isKeeping m_cursor m_onUp m_onDown m_longMany m_longLeast m_rowMany m_lots u11 m_place m_pace m_skillOf m_tired m_kind m_figure m_height m_tape m_letter m_letterAt m_told m_stored m_row ++ pl) := hD
                exact hret r11 u11 _ _ _ _ hF.symm rfl hP hD hS dX5_touch_100
  · rw [if_pos c5] at hF
    refine lv_aload_n hx hb dX5_touch_8 rfl (lv_at hl 0 rfl) ?_
    refine lv_iconst (v := (-1 : Int32)) hx hb dX5_touch_9 (by decide) ?_
    refine kcF_i (rx := fun (u : (Nat → Int32)) => W_model cI cT zL z_refused z_place z_pace z_skillOf z_tired z_kind z_figure z_height z_tape z_letter z_letterAt z_told z_stored z_row m_yards m_wind m_players m_touches m_holder m_kept m_taped m_at m_statements m_hasImage m_isKeeping m_cursor m_onUp m_onDown m_longMany m_longLeast m_rowMany m_lots u m_place m_pace m_skillOf m_tired m_kind m_figure m_height m_tape m_letter m_letterAt m_told m_stored m_row) (pl1 := fun _ => pl) (va_runV (As := [.int (-1 : Int32)]) (rest := []) ⟨hx, hb, hml, hown, ht⟩ (c_X5_no l dC dI cI cT zL z_refused z_place z_pace z_skillOf z_tired z_kind z_figure z_height z_tape z_letter z_letterAt z_told z_stored z_row m_yards m_wind m_players m_touches m_holder m_kept m_taped m_at m_statements m_hasImage m_isKeeping m_cursor m_onUp m_onDown m_longMany m_longLeast m_rowMany m_lots m_refused m_place m_pace m_skillOf m_tired m_kind m_figure m_height m_tape m_letter m_letterAt m_told m_stored m_row pl (-1 : Int32) (vp_of (by decide)) _) (cwV 1 ht (gV wm_104 wm_105 wm_106 wm_5 wm_107) rfl rfl rfl dv_X5_no ⟨Nat.le_of_ble_eq_true rfl, Nat.le_of_ble_eq_true rfl⟩) (preV hK hNS hP hD (va_recv hK hP (ci := 5) (q0 := 0) rfl rfl)) rfl rfl hl.1 rfl (lv_room (Nat.le_of_ble_eq_true rfl)) dX5_touch_10 ⟨Nat.le_of_ble_eq_true rfl, Nat.le_of_ble_eq_true rfl⟩) hP hD hS hA (fun r12 u12 H locs e12 hP hD hS => ?_)
    rw [e12, lt2_def] at hF
    have hP : va_P (dC, dI) vwCl (W_model cI cT zL z_refused z_place z_pace z_skillOf z_tired z_kind z_figure z_height z_tape z_letter z_letterAt z_told z_stored z_row m_yards m_wind m_players m_touches m_holder m_kept m_taped m_at m_statements m_hasImage m_isKeeping m_cursor m_onUp m_onDown m_longMany m_longLeast m_rowMany m_lots u12 m_place m_pace m_skillOf m_tired m_kind m_figure m_height m_tape m_letter m_letterAt m_told m_stored m_row ++ pl) H := hP
    have hD : va_D A (W_model cI cT zL z_refused z_place z_pace z_skillOf z_tired z_kind z_figure z_height z_tape z_letter z_letterAt z_told z_stored z_row m_yards m_wind m_players m_touches m_holder m_kept m_taped m_at m_statements m_hasImage m_isKeeping m_cursor m_onUp m_onDown m_longMany m_longLeast m_rowMany m_lots u12 m_place m_pace m_skillOf m_tired m_kind m_figure m_height m_tape m_letter m_letterAt m_told m_stored m_row ++ pl) := hD
    exact hret r12 u12 _ _ _ _ hF.symm rfl hP hD hS dX5_touch_13
def f_X5_wind (m_wind : Int32) (m_refused : Nat → Int32) (v1 : Int32) : Int32 × (Int32) × (Nat → Int32) := (lt1 (f_X5_bound v1 (-3 : Int32) (3 : Int32)) (fun r1 => (if r1 = (0 : Int32) then (((3 : Int32) + m_wind), v1, m_refused) else (lt2 (f_X5_no m_refused r1) (fun r2 u2 => (r2, m_wind, u2))))))
abbrev rm_X5_wind : Room := { frames := 1, cells := 0, slots := 0, locals := 22 }
noncomputable abbrev wd_X5_wind : List Cond := .code yX5_wind cX5_wind 4 (some .int) :: wsL_law
set_option maxHeartbeats 4000000 in
set_option maxRecDepth 100000 in
theorem c_X5_wind (l : Launch) (dC : Nat → ClassId) (dI : Nat → Nat → Nat) (cI cT : ClassId) (zL : Nat) (z_refused : Nat) (z_place : Nat) (z_pace : Nat) (z_skillOf : Nat) (z_tired : Nat) (z_kind : Nat) (z_figure : Nat) (z_height : Nat) (z_tape : Nat) (z_letter : Nat) (z_letterAt : Nat) (z_told : Nat) (z_stored : Nat) (z_row : Nat) (m_yards : Int32) (m_wind : Int32) (m_players : Int32) (m_touches : Int32) (m_holder : Int32) (m_kept : Int32) (m_taped : Int32) (m_at : Int32) (m_statements : Int32) (m_hasImage : Int32) (m_isKeeping : Int32) (m_cursor : Int32) (m_onUp : Int64) (m_onDown : Int64) (m_longMany : Int32) (m_longLeast : Int32) (m_rowMany : Int32) (m_lots : Int32) (m_refused : Nat → Int32) (m_place : Nat → Int32) (m_pace : Nat → Int32) (m_skillOf : Nat → Int32) (m_tired : Nat → Int32) (m_kind : Nat → Int32) (m_figure : Nat → Int32) (m_height : Nat → Int32) (m_tape : Nat → Int32) (m_letter : Nat → Int32) (m_letterAt : Nat → Int32) (m_told : Nat → Int32) (m_stored : Nat → Int32) (m_row : Nat → Int32) (pl : va_W) (v1 : Int32) : CtI l (dC, dI) cI cT yX5_wind wd_X5_wind rm_X5_wind [.ref zL, .int v1] (W_model cI cT zL z_refused z_place z_pace z_skillOf z_tired z_kind z_figure z_height z_tape z_letter z_letterAt z_told z_stored z_row m_yards m_wind m_players m_touches m_holder m_kept m_taped m_at m_statements m_hasImage m_isKeeping m_cursor m_onUp m_onDown m_longMany m_longLeast m_rowMany m_lots m_refused m_place m_pace m_skillOf m_tired m_kind m_figure m_height m_tape m_letter m_letterAt m_told m_stored m_row ++ pl) (fun (r : Int32) (u : (Int32) × (Nat → Int32)) => f_X5_wind m_wind m_refused v1 = (r, u)) (fun u => W_model cI cT zL z_refused z_place z_pace z_skillOf z_tired z_kind z_figure z_height z_tape z_letter z_letterAt z_told z_stored z_row m_yards u.1 m_players m_touches m_holder m_kept m_taped m_at m_statements m_hasImage m_isKeeping m_cursor m_onUp m_onDown m_longMany m_longLeast m_rowMany m_lots u.2 m_place m_pace m_skillOf m_tired m_kind m_figure m_height m_tape m_letter m_letterAt m_told m_stored m_row ++ pl) 0 0 := by
  refine ct_i (cc := cX5_wind) (maxL := 4) (by decide) rfl (Nat.le_of_ble_eq_true rfl) ?_
  intro p e s m args below meth c A ls Q hx hb hml hts hown hmn hA hK hNS hP hD hS hl hret
  have ht : ∀ w ∈ wsL_law, w.before args s = true := fun w h => hts w (List.mem_cons_of_mem _ h)
  have hl : lv_has ls 4 [(0, .ref zL), (1, .int v1)] := hl
  generalize hF : f_X5_wind m_wind m_refused v1 = F at hret
  unfold f_X5_wind at hF
  refine lv_iload_n hx hb dX5_wind_0 rfl (lv_at hl 1 rfl) ?_
  refine lv_bipush (v := (-3 : Int32)) hx hb dX5_wind_1 (by decide) ?_
  refine lv_iconst (v := (3 : Int32)) hx hb dX5_wind_3 (by decide) ?_
  refine kc0_i (rx := fun (_ : Unit) => ([] : va_W)) (pl1 := fun _ => pl) (wr := [(zL, .inr (5, [.ref z_refused, .ref z_place, .ref z_pace, .ref z_skillOf, .ref z_tired, .ref z_kind, .ref z_figure, .ref z_height, .int m_yards, .int m_wind, .int m_players, .int m_touches, .int m_holder, .int m_kept, .ref z_tape, .ref z_letter, .ref z_letterAt, .ref z_told, .int m_taped, .int m_at, .int m_statements, .ref z_stored, .int m_hasImage, .int m_isKeeping, .int m_cursor, .long m_onUp, .long m_onDown, .int m_longMany, .int m_longLeast, .ref z_row, .int m_rowMany, .int m_lots])), (z_refused, .inl (cI, 7, .inl m_refused)), (z_place, .inl (cI, 5, .inl m_place)), (z_pace, .inl (cI, 5, .inl m_pace)), (z_skillOf, .inl (cI, 5, .inl m_skillOf)), (z_tired, .inl (cI, 5, .inl m_tired)), (z_kind, .inl (cI, 6, .inl m_kind)), (z_figure, .inl (cI, 6, .inl m_figure)), (z_height, .inl (cI, 6, .inl m_height)), (z_tape, .inl (cI, 80, .inl m_tape)), (z_letter, .inl (cI, 40, .inl m_letter)), (z_letterAt, .inl (cI, 40, .inl m_letterAt)), (z_told, .inl (cI, 120, .inl m_told)), (z_stored, .inl (cI, 90, .inl m_stored)), (z_row, .inl (cI, 8, .inl m_row))]) (fun (_ : Unit) => W_model cI cT zL z_refused z_place z_pace z_skillOf z_tired z_kind z_figure z_height z_tape z_letter z_letterAt z_told z_stored z_row m_yards m_wind m_players m_touches m_holder m_kept m_taped m_at m_statements m_hasImage m_isKeeping m_cursor m_onUp m_onDown m_longMany m_longLeast m_rowMany m_lots m_refused m_place m_pace m_skillOf m_tired m_kind m_figure m_height m_tape m_letter m_letterAt m_told m_stored m_row) (va_runS (As := [.int v1, .int (-3 : Int32), .int (3 : Int32)]) (rest := []) ⟨hx, hb, hml, hown, ht⟩ (c_X5_bound l dC dI cI cT pl v1 (-3 : Int32) (3 : Int32) _) (cwS 3 ht (gS wm_101 wm_102 wm_5 wm_103) rfl rfl rfl dv_X5_bound ⟨Nat.le_of_ble_eq_true rfl, Nat.le_of_ble_eq_true rfl⟩) (preS hK hNS (hP.part [] rfl) (hD.part [] (by decide) rfl)) rfl rfl hl.1 rfl (lv_room (Nat.le_of_ble_eq_true rfl)) dX5_wind_4 ⟨Nat.le_of_ble_eq_true rfl, Nat.le_of_ble_eq_true rfl⟩) hP hD hS hA [] [0, 1, 2, 3, 4, 5, 6, 7, 8, 9, 10, 11, 12, 13, 14] [0, 1, 2, 3, 4, 5, 6, 7, 8, 9, 10, 11, 12, 13, 14] rfl rfl (by decide) (by decide) (by decide) (fun _ => rfl) (fun r1 _ H locs e1 hP hD hS => ?_)
  rw [e1, lt1_def] at hF
  have hP : va_P (dC, dI) vwCl (W_model cI cT zL z_refused z_place z_pace z_skillOf z_tired z_kind z_figure z_height z_tape z_letter z_letterAt z_told z_stored z_row m_yards m_wind m_players m_touches m_holder m_kept m_taped m_at m_statements m_hasImage m_isKeeping m_cursor m_onUp m_onDown m_longMany m_longLeast m_rowMany m_lots m_refused m_place m_pace m_skillOf m_tired m_kind m_figure m_height m_tape m_letter m_letterAt m_told m_stored m_row ++ pl) H := hP
  have hD : va_D A (W_model cI cT zL z_refused z_place z_pace z_skillOf z_tired z_kind z_figure z_height z_tape z_letter z_letterAt z_told z_stored z_row m_yards m_wind m_players m_touches m_holder m_kept m_taped m_at m_statements m_hasImage m_isKeeping m_cursor m_onUp m_onDown m_longMany m_longLeast m_rowMany m_lots m_refused m_place m_pace m_skillOf m_tired m_kind m_figure m_height m_tape m_letter m_letterAt m_told m_stored m_row ++ pl) := hD
  refine lv_istore_n (lv' := [(2, .int r1), (0, .ref zL), (1, .int v1)]) hx hb dX5_wind_7 rfl hl (by decide) rfl (fun ls hl => ?_)
  refine lv_iload_n hx hb dX5_wind_8 rfl (lv_at hl 0 rfl) ?_
  refine lv_if_eq (tgt := 18) hx hb dX5_wind_9 (by decide) (fun c9 => ?_) (fun c9 => ?_)
  · rw [if_pos c9] at hF
    refine lv_aload_n hx hb dX5_wind_18 rfl (lv_at hl 1 rfl) ?_
    refine gf_X5_9 (v := .int m_wind) hx hb ht hown hK hP 0 rfl (ht _ wm_291) rfl dX5_wind_19 ?_
    refine lv_istore_n (lv' := [(3, .int m_wind), (2, .int r1), (0, .ref zL), (1, .int v1)]) hx hb dX5_wind_22 rfl hl (by decide) rfl (fun ls hl => ?_)
    refine lv_aload_n hx hb dX5_wind_23 rfl (lv_at hl 2 rfl) ?_
    refine lv_iload_n hx hb dX5_wind_24 rfl (lv_at hl 3 rfl) ?_
    refine pf_X5_9 (v := .int v1) hx hb ht hown hK hP hD hS 0 rfl (ht _ wm_291) rfl rfl (Nat.le_of_ble_eq_true rfl) dX5_wind_25 (fun H locs hP hD hS => ?_)
    have hP : va_P (dC, dI) vwCl (W_model cI cT zL z_refused z_place z_pace z_skillOf z_tired z_kind z_figure z_height z_tape z_letter z_letterAt z_told z_stored z_row m_yards v1 m_players m_touches m_holder m_kept m_taped m_at m_statements m_hasImage m_isKeeping m_cursor m_onUp m_onDown m_longMany m_longLeast m_rowMany m_lots m_refused m_place m_pace m_skillOf m_tired m_kind m_figure m_height m_tape m_letter m_letterAt m_told m_stored m_row ++ pl) H := hP
    have hD : va_D A (W_model cI cT zL z_refused z_place z_pace z_skillOf z_tired z_kind z_figure z_height z_tape z_letter z_letterAt z_told z_stored z_row m_yards v1 m_players m_touches m_holder m_kept m_taped m_at m_statements m_hasImage m_isKeeping m_cursor m_onUp m_onDown m_longMany m_longLeast m_rowMany m_lots m_refused m_place m_pace m_skillOf m_tired m_kind m_figure m_height m_tape m_letter m_letterAt m_told m_stored m_row ++ pl) := hD
    refine lv_iconst (v := (3 : Int32)) hx hb dX5_wind_28 (by decide) ?_
    refine lv_iload_n hx hb dX5_wind_29 rfl (lv_at hl 0 rfl) ?_
    refine lv_iadd hx hb dX5_wind_30 ?_
    exact hret ((3 : Int32) + m_wind) (v1, m_refused) _ _ _ _ hF.symm rfl hP hD hS dX5_wind_31
  · rw [if_neg c9] at hF
    refine lv_aload_n hx hb dX5_wind_12 rfl (lv_at hl 1 rfl) ?_
    refine lv_iload_n hx hb dX5_wind_13 rfl (lv_at hl 0 rfl) ?_
    refine kcF_i (rx := fun (u : (Nat → Int32)) => W_model cI cT zL z_refused z_place z_pace z_skillOf z_tired z_kind z_figure z_height z_tape z_letter z_letterAt z_told z_stored z_row m_yards m_wind m_players m_touches m_holder m_kept m_taped m_at m_statements m_hasImage m_isKeeping m_cursor m_onUp m_onDown m_longMany m_longLeast m_rowMany m_lots u m_place m_pace m_skillOf m_tired m_kind m_figure m_height m_tape m_letter m_letterAt m_told m_stored m_row) (pl1 := fun _ => pl) (va_runV (As := [.int r1]) (rest := []) ⟨hx, hb, hml, hown, ht⟩ (c_X5_no l dC dI cI cT zL z_refused z_place z_pace z_skillOf z_tired z_kind z_figure z_height z_tape z_letter z_letterAt z_told z_stored z_row m_yards m_wind m_players m_touches m_holder m_kept m_taped m_at m_statements m_hasImage m_isKeeping m_cursor m_onUp m_onDown m_longMany m_longLeast m_rowMany m_lots m_refused m_place m_pace m_skillOf m_tired m_kind m_figure m_height m_tape m_letter m_letterAt m_told m_stored m_row pl r1 (bnd_no e1) _) (cwV 1 ht (gV wm_104 wm_105 wm_106 wm_5 wm_107) rfl rfl rfl dv_X5_no ⟨Nat.le_of_ble_eq_true rfl, Nat.le_of_ble_eq_true rfl⟩) (preV hK hNS hP hD (va_recv hK hP (ci := 5) (q0 := 0) rfl rfl)) rfl rfl hl.1 rfl (lv_room (Nat.le_of_ble_eq_true rfl)) dX5_wind_14 ⟨Nat.le_of_ble_eq_true rfl, Nat.le_of_ble_eq_true rfl⟩) hP hD hS hA (fun r2 u2 H locs e2 hP hD hS => ?_)
    rw [e2, lt2_def] at hF
    have hP : va_P (dC, dI) vwCl (W_model cI cT zL z_refused z_place z_pace z_skillOf z_tired z_kind z_figure z_height z_tape z_letter z_letterAt z_told z_stored z_row m_yards m_wind m_players m_touches m_holder m_kept m_taped m_at m_statements m_hasImage m_isKeeping m_cursor m_onUp m_onDown m_longMany m_longLeast m_rowMany m_lots u2 m_place m_pace m_skillOf m_tired m_kind m_figure m_height m_tape m_letter m_letterAt m_told m_stored m_row ++ pl) H := hP
    have hD : va_D A (W_model cI cT zL z_refused z_place z_pace z_skillOf z_tired z_kind z_figure z_height z_tape z_letter z_letterAt z_told z_stored z_row m_yards m_wind m_players m_touches m_holder m_kept m_taped m_at m_statements m_hasImage m_isKeeping m_cursor m_onUp m_onDown m_longMany m_longLeast m_rowMany m_lots u2 m_place m_pace m_skillOf m_tired m_kind m_figure m_height m_tape m_letter m_letterAt m_told m_stored m_row ++ pl) := hD
    exact hret r2 (m_wind, u2) _ _ _ _ hF.symm rfl hP hD hS dX5_wind_17
def f_X5_move (m_yards : Int32) (m_players : Int32) (m_refused : Nat → Int32) (m_place : Nat → Int32) (v1 : Int32) (v2 : Int32) : Int32 × (Nat → Int32) × (Nat → Int32) := (lt1 (f_X5_isPlayer m_players v1) (fun r1 => (if r1 = (0 : Int32) then (lt2 (f_X5_no m_refused (-1 : Int32)) (fun r4 u4 => (r4, u4, m_place))) else (lt1 (f_X5_bound v2 (0 : Int32) (m_yards - (1 : Int32))) (fun r2 => (if r2 = (0 : Int32) then ((m_place (Int32.toNatClampNeg v1)), m_refused, (upd m_place (Int32.toNatClampNeg v1) v2)) else (lt2 (f_X5_no m_refused r2) (fun r3 u3 => (r3, u3, m_place)))))))))
abbrev rm_X5_move : Room := { frames := 1, cells := 0, slots := 0, locals := 22 }
noncomputable abbrev wd_X5_move : List Cond := .code yX5_move cX5_move 5 (some .int) :: wsL_law
set_option maxHeartbeats 4000000 in
set_option maxRecDepth 100000 in
theorem c_X5_move (l : Launch) (dC : Nat → ClassId) (dI : Nat → Nat → Nat) (cI cT : ClassId) (zL : Nat) (z_refused : Nat) (z_place : Nat) (z_pace : Nat) (z_skillOf : Nat) (z_tired : Nat) (z_kind : Nat) (z_figure : Nat) (z_height : Nat) (z_tape : Nat) (z_letter : Nat) (z_letterAt : Nat) (z_told : Nat) (z_stored : Nat) (z_row : Nat) (m_yards : Int32) (m_wind : Int32) (m_players : Int32) (m_touches : Int32) (m_holder : Int32) (m_kept : Int32) (m_taped : Int32) (m_at : Int32) (m_statements : Int32) (m_hasImage : Int32) (m_isKeeping : Int32) (m_cursor : Int32) (m_onUp : Int64) (m_onDown : Int64) (m_longMany : Int32) (m_longLeast : Int32) (m_rowMany : Int32) (m_lots : Int32) (m_refused : Nat → Int32) (m_place : Nat → Int32) (m_pace : Nat → Int32) (m_skillOf : Nat → Int32) (m_tired : Nat → Int32) (m_kind : Nat → Int32) (m_figure : Nat → Int32) (m_height : Nat → Int32) (m_tape : Nat → Int32) (m_letter : Nat → Int32) (m_letterAt : Nat → Int32) (m_told : Nat → Int32) (m_stored : Nat → Int32) (m_row : Nat → Int32) (pl : va_W) (v1 : Int32) (v2 : Int32) (hmp : 0 ≤ m_players.toInt ∧ m_players.toInt ≤ 5) : CtI l (dC, dI) cI cT yX5_move wd_X5_move rm_X5_move [.ref zL, .int v1, .int v2] (W_model cI cT zL z_refused z_place z_pace z_skillOf z_tired z_kind z_figure z_height z_tape z_letter z_letterAt z_told z_stored z_row m_yards m_wind m_players m_touches m_holder m_kept m_taped m_at m_statements m_hasImage m_isKeeping m_cursor m_onUp m_onDown m_longMany m_longLeast m_rowMany m_lots m_refused m_place m_pace m_skillOf m_tired m_kind m_figure m_height m_tape m_letter m_letterAt m_told m_stored m_row ++ pl) (fun (r : Int32) (u : (Nat → Int32) × (Nat → Int32)) => f_X5_move m_yards m_players m_refused m_place v1 v2 = (r, u)) (fun u => W_model cI cT zL z_refused z_place z_pace z_skillOf z_tired z_kind z_figure z_height z_tape z_letter z_letterAt z_told z_stored z_row m_yards m_wind m_players m_touches m_holder m_kept m_taped m_at m_statements m_hasImage m_isKeeping m_cursor m_onUp m_onDown m_longMany m_longLeast m_rowMany m_lots u.1 u.2 m_pace m_skillOf m_tired m_kind m_figure m_height m_tape m_letter m_letterAt m_told m_stored m_row ++ pl) 0 0 := by
  refine ct_i (cc := cX5_move) (maxL := 5) (by decide) rfl (Nat.le_of_ble_eq_true rfl) ?_
  intro p e s m args below meth c A ls Q hx hb hml hts hown hmn hA hK hNS hP hD hS hl hret
  have ht : ∀ w ∈ wsL_law, w.before args s = true := fun w h => hts w (List.mem_cons_of_mem _ h)
  have hl : lv_has ls 5 [(0, .ref zL), (1, .int v1), (2, .int v2)] := hl
  generalize hF : f_X5_move m_yards m_players m_refused m_place v1 v2 = F at hret
  unfold f_X5_move at hF
  refine lv_aload_n hx hb dX5_move_0 rfl (lv_at hl 0 rfl) ?_
  refine lv_iload_n hx hb dX5_move_1 rfl (lv_at hl 1 rfl) ?_
  refine kcF_i (rx := fun (_ : Unit) => W_model cI cT zL z_refused z_place z_pace z_skillOf z_tired z_kind z_figure z_height z_tape z_letter z_letterAt z_told z_stored z_row m_yards m_wind m_players m_touches m_holder m_kept m_taped m_at m_statements m_hasImage m_isKeeping m_cursor m_onUp m_onDown m_longMany m_longLeast m_rowMany m_lots m_refused m_place m_pace m_skillOf m_tired m_kind m_figure m_height m_tape m_letter m_letterAt m_told m_stored m_row) (pl1 := fun _ => pl) (va_runV (As := [.int v1]) (rest := []) ⟨hx, hb, hml, hown, ht⟩ (c_X5_isPlayer l dC dI cI cT zL z_refused z_place z_pace z_skillOf z_tired z_kind z_figure z_height z_tape z_letter z_letterAt z_told z_stored z_row m_yards m_wind m_players m_touches m_holder m_kept m_taped m_at m_statements m_hasImage m_isKeeping m_cursor m_onUp m_onDown m_longMany m_longLeast m_rowMany m_lots m_refused m_place m_pace m_skillOf m_tired m_kind m_figure m_height m_tape m_letter m_letterAt m_told m_stored m_row pl v1 _) (cwV 1 ht (gV wm_323 wm_324 wm_325 wm_5 wm_326) rfl rfl rfl dv_X5_isPlayer ⟨Nat.le_of_ble_eq_true rfl, Nat.le_of_ble_eq_true rfl⟩) (preV hK hNS hP hD (va_recv hK hP (ci := 5) (q0 := 0) rfl rfl)) rfl rfl hl.1 rfl (lv_room (Nat.le_of_ble_eq_true rfl)) dX5_move_2 ⟨Nat.le_of_ble_eq_true rfl, Nat.le_of_ble_eq_true rfl⟩) hP hD hS hA (fun r1 _ H locs e1 hP hD hS => ?_)
  obtain ⟨e1, ze1⟩ := e1
  rw [e1, lt1_def] at hF
  have hP : va_P (dC, dI) vwCl (W_model cI cT zL z_refused z_place z_pace z_skillOf z_tired z_kind z_figure z_height z_tape z_letter z_letterAt z_told z_stored z_row m_yards m_wind m_players m_touches m_holder m_kept m_taped m_at m_statements m_hasImage m_isKeeping m_cursor m_onUp m_onDown m_longMany m_longLeast m_rowMany m_lots m_refused m_place m_pace m_skillOf m_tired m_kind m_figure m_height m_tape m_letter m_letterAt m_told m_stored m_row ++ pl) H := hP
  have hD : va_D A (W_model cI cT zL z_refused z_place z_pace z_skillOf z_tired z_kind z_figure z_height z_tape z_letter z_letterAt z_told z_stored z_row m_yards m_wind m_players m_touches m_holder m_kept m_taped m_at m_statements m_hasImage m_isKeeping m_cursor m_onUp m_onDown m_longMany m_longLeast m_rowMany m_lots m_refused m_place m_pace m_skillOf m_tired m_kind m_figure m_height m_tape m_letter m_letterAt m_told m_stored m_row ++ pl) := hD
  refine lv_if_ne (tgt := 12) hx hb dX5_move_5 (by decide) (fun c5 => ?_) (fun c5 => ?_)
  · rw [if_neg c5] at hF
    refine lv_iload_n hx hb dX5_move_12 rfl (lv_at hl 2 rfl) ?_
    refine lv_iconst (v := (0 : Int32)) hx hb dX5_move_13 (by decide) ?_
    refine lv_aload_n hx hb dX5_move_14 rfl (lv_at hl 0 rfl) ?_
    refine gf_X5_8 (v := .int m_yards) hx hb ht hown hK hP 0 rfl (ht _ wm_77) rfl dX5_move_15 ?_
    refine lv_iconst (v := (1 : Int32)) hx hb dX5_move_18 (by decide) ?_
    refine lv_isub hx hb dX5_move_19 ?_
    refine kc0_i (rx := fun (_ : Unit) => ([] : va_W)) (pl1 := fun _ => pl) (wr := [(zL, .inr (5, [.ref z_refused, .ref z_place, .ref z_pace, .ref z_skillOf, .ref z_tired, .ref z_kind, .ref z_figure, .ref z_height, .int m_yards, .int m_wind, .int m_players, .int m_touches, .int m_holder, .int m_kept, .ref z_tape, .ref z_letter, .ref z_letterAt, .ref z_told, .int m_taped, .int m_at, .int m_statements, .ref z_stored, .int m_hasImage, .int m_isKeeping, .int m_cursor, .long m_onUp, .long m_onDown, .int m_longMany, .int m_longLeast, .ref z_row, .int m_rowMany, .int m_lots])), (z_refused, .inl (cI, 7, .inl m_refused)), (z_place, .inl (cI, 5, .inl m_place)), (z_pace, .inl (cI, 5, .inl m_pace)), (z_skillOf, .inl (cI, 5, .inl m_skillOf)), (z_tired, .inl (cI, 5, .inl m_tired)), (z_kind, .inl (cI, 6, .inl m_kind)), (z_figure, .inl (cI, 6, .inl m_figure)), (z_height, .inl (cI, 6, .inl m_height)), (z_tape, .inl (cI, 80, .inl m_tape)), (z_letter, .inl (cI, 40, .inl m_letter)), (z_letterAt, .inl (cI, 40, .inl m_letterAt)), (z_told, .inl (cI, 120, .inl m_told)), (z_stored, .inl (cI, 90, .inl m_stored)), (z_row, .inl (cI, 8, .inl m_row))]) (fun (_ : Unit) => W_model cI cT zL z_refused z_place z_pace z_skillOf z_tired z_kind z_figure z_height z_tape z_letter z_letterAt z_told z_stored z_row m_yards m_wind m_players m_touches m_holder m_kept m_taped m_at m_statements m_hasImage m_isKeeping m_cursor m_onUp m_onDown m_longMany m_longLeast m_rowMany m_lots m_refused m_place m_pace m_skillOf m_tired m_kind m_figure m_height m_tape m_letter m_letterAt m_told m_stored m_row) (va_runS (As := [.int v2, .int (0 : Int32), .int (m_yards - (1 : Int32))]) (rest := []) ⟨hx, hb, hml, hown, ht⟩ (c_X5_bound l dC dI cI cT pl v2 (0 : Int32) (m_yards - (1 : Int32)) _) (cwS 3 ht (gS wm_101 wm_102 wm_5 wm_103) rfl rfl rfl dv_X5_bound ⟨Nat.le_of_ble_eq_true rfl, Nat.le_of_ble_eq_true rfl⟩) (preS hK hNS (hP.part [] rfl) (hD.part [] (by decide) rfl)) rfl rfl hl.1 rfl (lv_room (Nat.le_of_ble_eq_true rfl)) dX5_move_20 ⟨Nat.le_of_ble_eq_true rfl, Nat.le_of_ble_eq_true rfl⟩) hP hD hS hA [] [0, 1, 2, 3, 4, 5, 6, 7, 8, 9, 10, 11, 12, 13, 14] [0, 1, 2, 3, 4, 5, 6, 7, 8, 9, 10, 11, 12, 13, 14] rfl rfl (by decide) (by decide) (by decide) (fun _ => rfl) (fun r2 _ H locs e2 hP hD hS => ?_)
    rw [e2, lt1_def] at hF
    have hP : va_P (dC, dI) vwCl (W_model cI cT zL z_refused z_place z_pace z_skillOf z_tired z_kind z_figure z_height z_tape z_letter z_letterAt z_told z_stored z_row m_yards m_wind m_players m_touches m_holder m_kept m_taped m_at m_statements m_hasImage m_isKeeping m_cursor m_onUp m_onDown m_longMany m_longLeast m_rowMany m_lots m_refused m_place m_pace m_skillOf m_tired m_kind m_figure m_height m_tape m_letter m_letterAt m_told m_stored m_row ++ pl) H := hP
    have hD : va_D A (W_model cI cT zL z_refused z_place z_pace z_skillOf z_tired z_kind z_figure z_height z_tape z_letter z_letterAt z_told z_stored z_row m_yards m_wind m_players m_touches m_holder m_kept m_taped m_at m_statements m_hasImage m_isKeeping m_cursor m_onUp m_onDown m_longMany m_longLeast m_rowMany m_lots m_refused m_place m_pace m_skillOf m_tired m_kind m_figure m_height m_tape m_letter m_letterAt m_told m_stored m_row ++ pl) := hD
    refine lv_istore_n (lv' := [(3, .int r2), (0, .ref zL), (1, .int v1), (2, .int v2)]) hx hb dX5_move_23 rfl hl (by decide) rfl (fun ls hl => ?_)
    refine lv_iload_n hx hb dX5_move_24 rfl (lv_at hl 0 rfl) ?_
    refine lv_if_eq (tgt := 34) hx hb dX5_move_25 (by decide) (fun c25 => ?_) (fun c25 => ?_)
    · rw [if_pos c25] at hF
      refine lv_aload_n hx hb dX5_move_34 rfl (lv_at hl 1 rfl) ?_
      refine gf_X5_1 (v := .ref z_place) hx hb ht hown hK hP 0 rfl (ht _ wm_70) rfl dX5_move_35 ?_
      refine lv_iload_n hx hb dX5_move_38 rfl (lv_at hl 2 rfl) ?_
      refine va_iald hx hb hK hP 2 0 rfl rfl (vp_of (by have zl_0 : (0 : Int32).toInt = 0 := (by decide); have q_c5 : ¬ Int32.toInt r1 = Int32.toInt (0 : Int32) := fun h => c5 (Int32.toInt_inj.mp h); have q_c25 := congrArg Int32.toInt c25; have f_c5 := mPlayer_t e1 c5; omega)) dX5_move_39 ?_
      refine lv_istore (lv' := [(4, .int (m_place (Int32.toNatClampNeg v1))), (3, .int r2), (0, .ref zL), (1, .int v1), (2, .int v2)]) hx hb dX5_move_40 hl (by decide) rfl (fun ls hl => ?_)
      refine lv_aload_n hx hb dX5_move_42 rfl (lv_at hl 2 rfl) ?_
      refine gf_X5_1 (v := .ref z_place) hx hb ht hown hK hP 0 rfl (ht _ wm_70) rfl dX5_move_43 ?_
      refine lv_iload_n hx hb dX5_move_46 rfl (lv_at hl 3 rfl) ?_
      refine lv_iload_n hx hb dX5_move_47 rfl (lv_at hl 4 rfl) ?_
      refine va_iast hx hb hK hP hD hS 2 0 rfl rfl (vp_of (by have zl_0 : (0 : Int32).toInt = 0 := (by decide); have q_c5 : ¬ Int32.toInt r1 = Int32.toInt (0 : Int32) := fun h => c5 (Int32.toInt_inj.mp h); have q_c25 := congrArg Int32.toInt c25; have f_c5 := mPlayer_t e1 c5; omega)) dX5_move_48 (fun H locs hP hD hS => ?_)
      have hP : va_P (dC, dI) vwCl (W_model cI cT zL z_refused z_place z_pace z_skillOf z_tired z_kind z_figure z_height z_tape z_letter z_letterAt z_told z_stored z_row m_yards m_wind m_players m_touches m_holder m_kept m_taped m_at m_statements m_hasImage m_isKeeping m_cursor m_onUp m_onDown m_longMany m_longLeast m_rowMany m_lots m_refused (upd m_place (Int32.toNatClampNeg v1) v2) m_pace m_skillOf m_tired m_kind m_figure m_height m_tape m_letter m_letterAt m_told m_stored m_row ++ pl) H := hP
      have hD : va_D A (W_model cI cT zL z_refused z_place z_pace z_skillOf z_tired z_kind z_figure z_height z_tape z_letter z_letterAt z_told z_stored z_row m_yards m_wind m_players m_touches m_holder m_kept m_taped m_at m_statements m_hasImage m_isKeeping m_cursor m_onUp m_onDown m_longMany m_longLeast m_rowMany m_lots m_refused (upd m_place (Int32.toNatClampNeg v1) v2) m_pace m_skillOf m_tired m_kind m_figure m_height m_tape m_letter m_letterAt m_told m_stored m_row ++ pl) := hD
      refine lv_iload hx hb dX5_move_49 (lv_at hl 0 rfl) ?_
      exact hret (m_place (Int32.toNatClampNeg v1)) (m_refused, (upd m_place (Int32.toNatClampNeg v1) v2)) _ _ _ _ hF.symm rfl hP hD hS dX5_move_51
    · rw [if_neg c25] at hF
      refine lv_aload_n hx hb dX5_move_28 rfl (lv_at hl 1 rfl) ?_
      refine lv_iload_n hx hb dX5_move_29 rfl (lv_at hl 0 rfl) ?_
      refine kcF_i (rx := fun (u : (Nat → Int32)) => W_model cI cT zL z_refused z_place z_pace z_skillOf z_tired z_kind z_figure z_height z_tape z_letter z_letterAt z_told z_stored z_row m_yards m_wind m_players m_touches m_holder m_kept m_taped m_at m_statements m_hasImage m_isKeeping m_cursor m_onUp m_onDown m_longMany m_longLeast m_rowMany m_lots u m_place m_pace m_skillOf m_tired m_kind m_figure m_height m_tape m_letter m_letterAt m_told m_stored m_row) (pl1 := fun _ => pl) (va_runV (As := [.int r2]) (rest := []) ⟨hx, hb, hml, hown, ht⟩ (c_X5_no l dC dI cI cT zL z_refused z_place z_pace z_skillOf z_tired z_kind z_figure z_height z_tape z_letter z_letterAt z_told z_stored z_row m_yards m_wind m_players m_touches m_holder m_kept m_taped m_at m_statements m_hasImage m_isKeeping m_cursor m_onUp m_onDown m_longMany m_longLeast m_rowMany m_lots m_refused m_place m_pace m_skillOf m_tired m_kind m_figure m_height m_tape m_letter m_letterAt m_told m_stored m_row pl r2 (bnd_no e2) _) (cwV 1 ht (gV wm_104 wm_105 wm_106 wm_5 wm_107) rfl rfl rfl dv_X5_no ⟨Nat.le_of_ble_eq_true rfl, Nat.le_of_ble_eq_true rfl⟩) (preV hK hNS hP hD (va_recv hK hP (ci := 5) (q0 := 0) rfl rfl)) rfl rfl hl.1 rfl (lv_room (Nat.le_of_ble_eq_true rfl)) dX5_move_30 ⟨Nat.le_of_ble_eq_true rfl, Nat.le_of_ble_eq_true rfl⟩) hP hD hS hA (fun r3 u3 H locs e3 hP hD hS => ?_)
      rw [e3, lt2_def] at hF
      have hP : va_P (dC, dI) vwCl (W_model cI cT zL z_refused z_place z_pace z_skillOf z_tired z_kind z_figure z_height z_tape z_letter z_letterAt z_told z_stored z_row m_yards m_wind m_players m_touches m_holder m_kept m_taped m_at m_statements m_hasImage m_isKeeping m_cursor m_onUp m_onDown m_longMany m_longLeast m_rowMany m_lots u3 m_place m_pace m_skillOf m_tired m_kind m_figure m_height m_tape m_letter m_letterAt m_told m_stored m_row ++ pl) H := hP
      have hD : va_D A (W_model cI cT zL z_refused z_place z_pace z_skillOf z_tired z_kind z_figure z_height z_tape z_letter z_letterAt z_told z_stored z_row m_yards m_wind m_players m_touches m_holder m_kept m_taped m_at m_statements m_hasImage m_isKeeping m_cursor m_onUp m_onDown m_longMany m_longLeast m_rowMany m_lots u3 m_place m_pace m_skillOf m_tired m_kind m_figure m_height m_tape m_letter m_letterAt m_told m_stored m_row ++ pl) := hD
      exact hret r3 (u3, m_place) _ _ _ _ hF.symm rfl hP hD hS dX5_move_33
  · rw [if_pos c5] at hF
    refine lv_iconst (v := (-1 : Int32)) hx hb dX5_move_8 (by decide) ?_
    refine lv_goto (tgt := 23) hx hb dX5_move_9 (by decide) ?_
    refine lv_istore_n (lv' := [(3, .int (-1 : Int32)), (0, .ref zL), (1, .int v1), (2, .int v2)]) hx hb dX5_move_23 rfl hl (by decide) rfl (fun ls hl => ?_)
    refine lv_iload_n hx hb dX5_move_24 rfl (lv_at hl 0 rfl) ?_
    refine lv_if_eq (tgt := 34) hx hb dX5_move_25 (by decide) (fun c25 => absurd c25 (by decide)) (fun c25 => ?_)
    refine lv_aload_n hx hb dX5_move_28 rfl (lv_at hl 1 rfl) ?_
    refine lv_iload_n hx hb dX5_move_29 rfl (lv_at hl 0 rfl) ?_
    refine kcF_i (rx := fun (u : (Nat → Int32)) => W_model cI cT zL z_refused z_place z_pace z_skillOf z_tired z_kind z_figure z_height z_tape z_letter z_letterAt z_told z_stored z_row m_yards m_wind m_players m_touches m_holder m_kept m_taped m_at m_statements m_hasImage m_isKeeping m_cursor m_onUp m_onDown m_longMany m_longLeast m_rowMany m_lots u m_place m_pace m_skillOf m_tired m_kind m_figure m_height m_tape m_letter m_letterAt m_told m_stored m_row) (pl1 := fun _ => pl) (va_runV (As := [.int (-1 : Int32)]) (rest := []) ⟨hx, hb, hml, hown, ht⟩ (c_X5_no l dC dI cI cT zL z_refused z_place z_pace z_skillOf z_tired z_kind z_figure z_height z_tape z_letter z_letterAt z_told z_stored z_row m_yards m_wind m_players m_touches m_holder m_kept m_taped m_at m_statements m_hasImage m_isKeeping m_cursor m_onUp m_onDown m_longMany m_longLeast m_rowMany m_lots m_refused m_place m_pace m_skillOf m_tired m_kind m_figure m_height m_tape m_letter m_letterAt m_told m_stored m_row pl (-1 : Int32) (vp_of (by decide)) _) (cwV 1 ht (gV wm_104 wm_105 wm_106 wm_5 wm_107) rfl rfl rfl dv_X5_no ⟨Nat.le_of_ble_eq_true rfl, Nat.le_of_ble_eq_true rfl⟩) (preV hK hNS hP hD (va_recv hK hP (ci := 5) (q0 := 0) rfl rfl)) rfl rfl hl.1 rfl (lv_room (Nat.le_of_ble_eq_true rfl)) dX5_move_30 ⟨Nat.le_of_ble_eq_true rfl, Nat.le_of_ble_eq_true rfl⟩) hP hD hS hA (fun r4 u4 H locs e4 hP hD hS => ?_)
    rw [e4, lt2_def] at hF
    have hP : va_P (dC, dI) vwCl (W_model cI cT zL z_refused z_place z_pace z_skillOf z_tired z_kind z_figure z_height z_tape z_letter z_letterAt z_told z_stored z_row m_yards m_wind m_players m_touches m_holder m_kept m_taped m_at m_statements m_hasImage m_isKeeping m_cursor m_onUp m_onDown m_longMany m_longLeast m_rowMany m_lots u4 m_place m_pace m_skillOf m_tired m_kind m_figure m_height m_tape m_letter m_letterAt m_told m_stored m_row ++ pl) H := hP
    have hD : va_D A (W_model cI cT zL z_refused z_place z_pace z_skillOf z_tired z_kind z_figure z_height z_tape z_letter z_letterAt z_told z_stored z_row m_yards m_wind m_players m_touches m_holder m_kept m_taped m_at m_statements m_hasImage m_isKeeping m_cursor m_onUp m_onDown m_longMany m_longLeast m_rowMany m_lots u4 m_place m_pace m_skillOf m_tired m_kind m_figure m_height m_tape m_letter m_letterAt m_told m_stored m_row ++ pl) := hD
    exact hret r4 (u4, m_place) _ _ _ _ hF.symm rfl hP hD hS dX5_move_33
def f_X5_give (m_players : Int32) (m_holder : Int32) (m_kept : Int32) (m_refused : Nat → Int32) (v1 : Int32) : Int32 × (Int32) × (Int32) × (Nat → Int32) := (lt1 (f_X5_isPlayer m_players v1) (fun r1 => (if r1 = (0 : Int32) then (lt2 (f_X5_no m_refused (-1 : Int32)) (fun r2 u2 => (r2, m_holder, m_kept, u2))) else (m_holder, v1, (0 : Int32), m_refused))))
abbrev rm_X5_give : Room := { frames := 1, cells := 0, slots := 0, locals := 21 }
noncomputable abbrev wd_X5_give : List Cond := .code yX5_give cX5_give 3 (some .int) :: wsL_law
set_option maxHeartbeats 4000000 in
set_option maxRecDepth 100000 in
theorem c_X5_give (l : Launch) (dC : Nat → ClassId) (dI : Nat → Nat → Nat) (cI cT : ClassId) (zL : Nat) (z_refused : Nat) (z_place : Nat) (z_pace : Nat) (z_skillOf : Nat) (z_tired : Nat) (z_kind : Nat) (z_figure : Nat) (z_height : Nat) (z_tape : Nat) (z_letter : Nat) (z_letterAt : Nat) (z_told : Nat) (z_stored : Nat) (z_row : Nat) (m_yards : Int32) (m_wind : Int32) (m_players : Int32) (m_touches : Int32) (m_holder : Int32) (m_kept : Int32) (m_taped : Int32) (m_at : Int32) (m_statements : Int32) (m_hasImage : Int32) (m_isKeeping : Int32) (m_cursor : Int32) (m_onUp : Int64) (m_onDown : Int64) (m_longMany : Int32) (m_longLeast : Int32) (m_rowMany : Int32) (m_lots : Int32) (m_refused : Nat → Int32) (m_place : Nat → Int32) (m_pace : Nat → Int32) (m_skillOf : Nat → Int32) (m_tired : Nat → Int32) (m_kind : Nat → Int32) (m_figure : Nat → Int32) (m_height : Nat → Int32) (m_tape : Nat → Int32) (m_letter : Nat → Int32) (m_letterAt : Nat → Int32) (m_told : Nat → Int32) (m_stored : Nat → Int32) (m_row : Nat → Int32) (pl : va_W) (v1 : Int32) : CtI l (dC, dI) cI cT yX5_give wd_X5_give rm_X5_give [.ref zL, .int v1] (W_model cI cT zL z_refused z_place z_pace z_skillOf z_tired z_kind z_figure z_height z_tape z_letter z_letterAt z_told z_stored z_row m_yards m_wind m_players m_touches m_holder m_kept m_taped m_at m_statements m_hasImage m_isKeeping m_cursor m_onUp m_onDown m_longMany m_longLeast m_rowMany m_lots m_refused m_place m_pace m_skillOf m_tired m_kind m_figure m_height m_tape m_letter m_letterAt m_told m_stored m_row ++ pl) (fun (r : Int32) (u : (Int32) × (Int32) × (Nat → Int32)) => f_X5_give m_players m_holder m_kept m_refused v1 = (r, u)) (fun u => W_model cI cT zL z_refused z_place z_pace z_skillOf z_tired z_kind z_figure z_height z_tape z_letter z_letterAt z_told z_stored z_row m_yards m_wind m_players m_touches u.1 u.2.1 m_taped m_at m_statements m_hasImage m_isKeeping m_cursor m_onUp m_onDown m_longMany m_longLeast m_rowMany m_lots u.2.2 m_place m_pace m_skillOf m_tired m_kind m_figure m_height m_tape m_letter m_letterAt m_told m_stored m_row ++ pl) 0 0 := by
  refine ct_i (cc := cX5_give) (maxL := 3) (by decide) rfl (Nat.le_of_ble_eq_true rfl) ?_
  intro p e s m args below meth c A ls Q hx hb hml hts hown hmn hA hK hNS hP hD hS hl hret
  have ht : ∀ w ∈ wsL_law, w.before args s = true := fun w h => hts w (List.mem_cons_of_mem _ h)
  have hl : lv_has ls 3 [(0, .ref zL), (1, .int v1)] := hl
  generalize hF : f_X5_give m_players m_holder m_kept m_refused v1 = F at hret
  unfold f_X5_give at hF
  refine lv_aload_n hx hb dX5_give_0 rfl (lv_at hl 0 rfl) ?_
  refine lv_iload_n hx hb dX5_give_1 rfl (lv_at hl 1 rfl) ?_
  refine kcF_i (rx := fun (_ : Unit) => W_model cI cT zL z_refused z_place z_pace z_skillOf z_tired z_kind z_figure z_height z_tape z_letter z_letterAt z_told z_stored z_row m_yards m_wind m_players m_touches m_holder m_kept m_taped m_at m_statements m_hasImage m_isKeeping m_cursor m_onUp m_onDown m_longMany m_longLeast m_rowMany m_lots m_refused m_place m_pace m_skillOf m_tired m_kind m_figure m_height m_tape m_letter m_letterAt m_told m_stored m_row) (pl1 := fun _ => pl) (va_runV (As := [.int v1]) (rest := []) ⟨hx, hb, hml, hown, ht⟩ (c_X5_isPlayer l dC dI cI cT zL z_refused z_place z_pace z_skillOf z_tired z_kind z_figure z_height z_tape z_letter z_letterAt z_told z_stored z_row m_yards m_wind m_players m_touches m_holder m_kept m_taped m_at m_statements m_hasImage m_isKeeping m_cursor m_onUp m_onDown m_longMany m_longLeast m_rowMany m_lots m_refused m_place m_pace m_skillOf m_tired m_kind m_figure m_height m_tape m_letter m_letterAt m_told m_stored m_row pl v1 _) (cwV 1 ht (gV wm_323 wm_324 wm_325 wm_5 wm_326) rfl rfl rfl dv_X5_isPlayer ⟨Nat.le_of_ble_eq_true rfl, Nat.le_of_ble_eq_true rfl⟩) (preV hK hNS hP hD (va_recv hK hP (ci := 5) (q0 := 0) rfl rfl)) rfl rfl hl.1 rfl (lv_room (Nat.le_of_ble_eq_true rfl)) dX5_give_2 ⟨Nat.le_of_ble_eq_true rfl, Nat.le_of_ble_eq_true rfl⟩) hP hD hS hA (fun r1 _ H locs e1 hP hD hS => ?_)
  obtain ⟨e1, ze1⟩ := e1
  rw [e1, lt1_def] at hF
  have hP : va_P (dC, dI) vwCl (W_model cI cT zL z_refused z_place z_pace z_skillOf z_tired z_kind z_figure z_height z_tape z_letter z_letterAt z_told z_stored z_row m_yards m_wind m_players m_touches m_holder m_kept m_taped m_at m_statements m_hasImage m_isKeeping m_cursor m_onUp m_onDown m_longMany m_longLeast m_rowMany m_lots m_refused m_place m_pace m_skillOf m_tired m_kind m_figure m_height m_tape m_letter m_letterAt m_told m_stored m_row ++ pl) H := hP
  have hD : va_D A (W_model cI cT zL z_refused z_place z_pace z_skillOf z_tired z_kind z_figure z_height z_tape z_letter z_letterAt z_told z_stored z_row m_yards m_wind m_players m_touches m_holder m_kept m_taped m_at m_statements m_hasImage m_isKeeping m_cursor m_onUp m_onDown m_longMany m_longLeast m_rowMany m_lots m_refused m_place m_pace m_skillOf m_tired m_kind m_figure m_height m_tape m_letter m_letterAt m_told m_stored m_row ++ pl) := hD
  refine lv_if_ne (tgt := 14) hx hb dX5_give_5 (by decide) (fun c5 => ?_) (fun c5 => ?_)
  · rw [if_neg c5] at hF
    refine lv_aload_n hx hb dX5_give_14 rfl (lv_at hl 0 rfl) ?_
    refine gf_X5_12 (v := .int m_holder) hx hb ht hown hK hP 0 rfl (ht _ wm_78) rfl dX5_give_15 ?_
    refine lv_istore_n (lv' := [(2, .int m_holder), (0, .ref zL), (1, .int v1)]) hx hb dX5_give_18 rfl hl (by decide) rfl (fun ls hl => ?_)
    refine lv_aload_n hx hb dX5_give_19 rfl (lv_at hl 1 rfl) ?_
    refine lv_iload_n hx hb dX5_give_20 rfl (lv_at hl 2 rfl) ?_
    refine pf_X5_12 (v := .int v1) hx hb ht hown hK hP hD hS 0 rfl (ht _ wm_78) rfl rfl (Nat.le_of_ble_eq_true rfl) dX5_give_21 (fun H locs hP hD hS => ?_)
    have hP : va_P (dC, dI) vwCl (W_model cI cT zL z_refused z_place z_pace z_skillOf z_tired z_kind z_figure z_height z_tape z_letter z_letterAt z_told z_stored z_row m_yards m_wind m_players m_touches v1 m_kept m_taped m_at m_statements m_hasImage m_isKeeping m_cursor m_onUp m_onDown m_longMany m_longLeast m_rowMany m_lots m_refused m_place m_pace m_skillOf m_tired m_kind m_figure m_height m_tape m_letter m_letterAt m_told m_stored m_row ++ pl) H := hP
    have hD : va_D A (W_model cI cT zL z_refused z_place z_pace z_skillOf z_tired z_kind z_figure z_height z_tape z_letter z_letterAt z_told z_stored z_row m_yards m_wind m_players m_touches v1 m_kept m_taped m_at m_statements m_hasImage m_isKeeping m_cursor m_onUp m_onDown m_longMany m_longLeast m_rowMany m_lots m_refused m_place m_pace m_skillOf m_tired m_kind m_figure m_height m_tape m_letter m_letterAt m_told m_stored m_row ++ pl) := hD
    refine lv_aload_n hx hb dX5_give_24 rfl (lv_at hl 1 rfl) ?_
    refine lv_iconst (v := (0 : Int32)) hx hb dX5_give_25 (by decide) ?_
    refine pf_X5_13 (v := .int (0 : Int32)) hx hb ht hown hK hP hD hS 0 rfl (ht _ wm_294) rfl rfl (Nat.le_of_ble_eq_true rfl) dX5_give_26 (fun H locs hP hD hS => ?_)
    have hP : va_P (dC, dI) vwCl (W_model cI cT zL z_refused z_place z_pace z_skillOf z_tired z_kind z_figure z_height z_tape z_letter z_letterAt z_told z_stored z_row m_yards m_wind m_players m_touches v1 (0 : Int32) m_taped m_at m_statements m_hasImage m_isKeeping m_cursor m_onUp m_onDown m_longMany m_longLeast m_rowMany m_lots m_refused m_place m_pace m_skillOf m_tired m_kind m_figure m_height m_tape m_letter m_letterAt m_told m_stored m_row ++ pl) H := hP
    have hD : va_D A (W_model cI cT zL z_refused z_place z_pace z_skillOf z_tired z_kind z_figure z_height z_tape z_letter z_letterAt z_told z_stored z_row m_yards m_wind m_players m_touches v1 (0 : Int32) m_taped m_at m_statements m_hasImage m_isKeeping m_cursor m_onUp m_onDown m_longMany m_longLeast m_rowMany m_lots m_refused m_place m_pace m_skillOf m_tired m_kind m_figure m_height m_tape m_letter m_letterAt m_told m_stored m_row ++ pl) := hD
    refine lv_iload_n hx hb dX5_give_29 rfl (lv_at hl 0 rfl) ?_
    exact hret m_holder (v1, (0 : Int32), m_refused) _ _ _ _ hF.symm rfl hP hD hS dX5_give_30
  · rw [if_pos c5] at hF
    refine lv_aload_n hx hb dX5_give_8 rfl (lv_at hl 0 rfl) ?_
    refine lv_iconst (v := (-1 : Int32)) hx hb dX5_give_9 (by decide) ?_
    refine kcF_i (rx := fun (u : (Nat → Int32)) => W_model cI cT zL z_refused z_place z_pace z_skillOf z_tired z_kind z_figure z_height z_tape z_letter z_letterAt z_told z_stored z_row m_yards m_wind m_players m_touches m_holder m_kept m_taped m_at m_statements m_hasImage m_isKeeping m_cursor m_onUp m_onDown m_longMany m_longLeast m_rowMany m_lots u m_place m_pace m_skillOf m_tired m_kind m_figure m_height m_tape m_letter m_letterAt m_told m_stored m_row) (pl1 := fun _ => pl) (va_runV (As := [.int (-1 : Int32)]) (rest := []) ⟨hx, hb, hml, hown, ht⟩ (c_X5_no l dC dI cI cT zL z_refused z_place z_pace z_skillOf z_tired z_kind z_figure z_height z_tape z_letter z_letterAt z_told z_stored z_row m_yards m_wind m_players m_touches m_holder m_kept m_taped m_at m_statements m_hasImage m_isKeeping m_cursor m_onUp m_onDown m_longMany m_longLeast m_rowMany m_lots m_refused m_place m_pace m_skillOf m_tired m_kind m_figure m_height m_tape m_letter m_letterAt m_told m_stored m_row pl (-1 : Int32) (vp_of (by decide)) _) (cwV 1 ht (gV wm_104 wm_105 wm_106 wm_5 wm_107) rfl rfl rfl dv_X5_no ⟨Nat.le_of_ble_eq_true rfl, Nat.le_of_ble_eq_true rfl⟩) (preV hK hNS hP hD (va_recv hK hP (ci := 5) (q0 := 0) rfl rfl)) rfl rfl hl.1 rfl (lv_room (Nat.le_of_ble_eq_true rfl)) dX5_give_10 ⟨Nat.le_of_ble_eq_true rfl, Nat.le_of_ble_eq_true rfl⟩) hP hD hS hA (fun r2 u2 H locs e2 hP hD hS => ?_)
    rw [e2, lt2_def] at hF
    have hP : va_P (dC, dI) vwCl (W_model cI cT zL z_refused z_place z_pace z_skillOf z_tired z_kind z_figure z_height z_tape z_letter z_letterAt z_told z_stored z_row m_yards m_wind m_players m_touches m_holder m_kept m_taped m_at m_statements m_hasImage m_isKeeping m_cursor m_onUp m_onDown m_longMany m_longLeast m_rowMany m_lots u2 m_place m_pace m_skillOf m_tired m_kind m_figure m_height m_tape m_letter m_letterAt m_told m_stored m_row ++ pl) H := hP
    have hD : va_D A (W_model cI cT zL z_refused z_place z_pace z_skillOf z_tired z_kind z_figure z_height z_tape z_letter z_letterAt z_told z_stored z_row m_yards m_wind m_players m_touches m_holder m_kept m_taped m_at m_statements m_hasImage m_isKeeping m_cursor m_onUp m_onDown m_longMany m_longLeast m_rowMany m_lots u2 m_place m_pace m_skillOf m_tired m_kind m_figure m_height m_tape m_letter m_letterAt m_told m_stored m_row ++ pl) := hD
    exact hret r2 (m_holder, m_kept, u2) _ _ _ _ hF.symm rfl hP hD hS dX5_give_13
def f_X5_skill (m_players : Int32) (m_refused : Nat → Int32) (m_skillOf : Nat → Int32) (v1 : Int32) (v2 : Int32) : Int32 × (Nat → Int32) × (Nat → Int32) := (lt1 (f_X5_isPlayer m_players v1) (fun r1 => (if r1 = (0 : Int32) then (lt2 (f_X5_no m_refused (-1 : Int32)) (fun r4 u4 => (r4, u4, m_skillOf))) else (lt1 (f_X5_bound v2 (0 : Int32) (9 : Int32)) (fun r2 => (if r2 = (0 : Int32) then ((m_skillOf (Int32.toNatClampNeg v1)), m_refused, (upd m_skillOf (Int32.toNatClampNeg v1) v2)) else (lt2 (f_X5_no m_refused r2) (fun r3 u3 => (r3, u3, m_skillOf)))))))))
abbrev rm_X5_skill : Room := { frames := 1, cells := 0, slots := 0, locals := 22 }
noncomputable abbrev wd_X5_skill : List Cond := .code yX5_skill cX5_skill 5 (some .int) :: wsL_law
set_option maxHeartbeats 4000000 in
set_option maxRecDepth 100000 in
theorem c_X5_skill (l : Launch) (dC : Nat → ClassId) (dI : Nat → Nat → Nat) (cI cT : ClassId) (zL : Nat) (z_refused : Nat) (z_place : Nat) (z_pace : Nat) (z_skillOf : Nat) (z_tired : Nat) (z_kind : Nat) (z_figure : Nat) (z_height : Nat) (z_tape : Nat) (z_letter : Nat) (z_letterAt : Nat) (z_told : Nat) (z_stored : Nat) (z_row : Nat) (m_yards : Int32) (m_wind : Int32) (m_players : Int32) (m_touches : Int32) (m_holder : Int32) (m_kept : Int32) (m_taped : Int32) (m_at : Int32) (m_statements : Int32) (m_hasImage : Int32) (m_isKeeping : Int32) (m_cursor : Int32) (m_onUp : Int64) (m_onDown : Int64) (m_longMany : Int32) (m_longLeast : Int32) (m_rowMany : Int32) (m_lots : Int32) (m_refused : Nat → Int32) (m_place : Nat → Int32) (m_pace : Nat → Int32) (m_skillOf : Nat → Int32) (m_tired : Nat → Int32) (m_kind : Nat → Int32) (m_figure : Nat → Int32) (m_height : Nat → Int32) (m_tape : Nat → Int32) (m_letter : Nat → Int32) (m_letterAt : Nat → Int32) (m_told : Nat → Int32) (m_stored : Nat → Int32) (m_row : Nat → Int32) (pl : va_W) (v1 : Int32) (v2 : Int32) (hmp : 0 ≤ m_players.toInt ∧ m_players.toInt ≤ 5) : CtI l (dC, dI) cI cT yX5_skill wd_X5_skill rm_X5_skill [.ref zL, .int v1, .int v2] (W_model cI cT zL z_refused z_place z_pace z_skillOf z_tired z_kind z_figure z_height z_tape z_letter z_letterAt z_told z_stored z_row m_yards m_wind m_players m_touches m_holder m_kept m_taped m_at m_statements m_hasImage m_isKeeping m_cursor m_onUp m_onDown m_longMany m_longLeast m_rowMany m_lots m_refused m_place m_pace m_skillOf m_tired m_kind m_figure m_height m_tape m_letter m_letterAt m_told m_stored m_row ++ pl) (fun (r : Int32) (u : (Nat → Int32) × (Nat → Int32)) => f_X5_skill m_players m_refused m_skillOf v1 v2 = (r, u)) (fun u => W_model cI cT zL z_refused z_place z_pace z_skillOf z_tired z_kind z_figure z_height z_tape z_letter z_letterAt z_told z_stored z_row m_yards m_wind m_players m_touches m_holder m_kept m_taped m_at m_statements m_hasImage m_isKeeping m_cursor m_onUp m_onDown m_longMany m_longLeast m_rowMany m_lots u.1 m_place m_pace u.2 m_tired m_kind m_figure m_height m_tape m_letter m_letterAt m_told m_stored m_row ++ pl) 0 0 := by
  refine ct_i (cc := cX5_skill) (maxL := 5) (by decide) rfl (Nat.le_of_ble_eq_true rfl) ?_
  intro p e s m args below meth c A ls Q hx hb hml hts hown hmn hA hK hNS hP hD hS hl hret
  have ht : ∀ w ∈ wsL_law, w.before args s = true := fun w h => hts w (List.mem_cons_of_mem _ h)
  have hl : lv_has ls 5 [(0, .ref zL), (1, .int v1), (2, .int v2)] := hl
  generalize hF : f_X5_skill m_players m_refused m_skillOf v1 v2 = F at hret
  unfold f_X5_skill at hF
  refine lv_aload_n hx hb dX5_skill_0 rfl (lv_at hl 0 rfl) ?_
  refine lv_iload_n hx hb dX5_skill_1 rfl (lv_at hl 1 rfl) ?_
  refine kcF_i (rx := fun (_ : Unit) => W_model cI cT zL z_refused z_place z_pace z_skillOf z_tired z_kind z_figure z_height z_tape z_letter z_letterAt z_told z_stored z_row m_yards m_wind m_players m_touches m_holder m_kept m_taped m_at m_statements m_hasImage m_isKeeping m_cursor m_onUp m_onDown m_longMany m_longLeast m_rowMany m_lots m_refused m_place m_pace m_skillOf m_tired m_kind m_figure m_height m_tape m_letter m_letterAt m_told m_stored m_row) (pl1 := fun _ => pl) (va_runV (As := [.int v1]) (rest := []) ⟨hx, hb, hml, hown, ht⟩ (c_X5_isPlayer l dC dI cI cT zL z_refused z_place z_pace z_skillOf z_tired z_kind z_figure z_height z_tape z_letter z_letterAt z_told z_stored z_row m_yards m_wind m_players m_touches m_holder m_kept m_taped m_at m_statements m_hasImage m_isKeeping m_cursor m_onUp m_onDown m_longMany m_longLeast m_rowMany m_lots m_refused m_place m_pace m_skillOf m_tired m_kind m_figure m_height m_tape m_letter m_letterAt m_told m_stored m_row pl v1 _) (cwV 1 ht (gV wm_323 wm_324 wm_325 wm_5 wm_326) rfl rfl rfl dv_X5_isPlayer ⟨Nat.le_of_ble_eq_true rfl, Nat.le_of_ble_eq_true rfl⟩) (preV hK hNS hP hD (va_recv hK hP (ci := 5) (q0 := 0) rfl rfl)) rfl rfl hl.1 rfl (lv_room (Nat.le_of_ble_eq_true rfl)) dX5_skill_2 ⟨Nat.le_of_ble_eq_true rfl, Nat.le_of_ble_eq_true rfl⟩) hP hD hS hA (fun r1 _ H locs e1 hP hD hS => ?_)
  obtain ⟨e1, ze1⟩ := e1
  rw [e1, lt1_def] at hF
  have hP : va_P (dC, dI) vwCl (W_model cI cT zL z_refused z_place z_pace z_skillOf z_tired z_kind z_figure z_height z_tape z_letter z_letterAt z_told z_stored z_row m_yards m_wind m_players m_touches m_holder m_kept m_taped m_at m_statements m_hasImage m_isKeeping m_cursor m_onUp m_onDown m_longMany m_longLeast m_rowMany m_lots m_refused m_place m_pace m_skillOf m_tired m_kind m_figure m_height m_tape m_letter m_letterAt m_told m_stored m_row ++ pl) H := hP
  have hD : va_D A (W_model cI cT zL z_refused z_place z_pace z_skillOf z_tired z_kind z_figure z_height z_tape z_letter z_letterAt z_told z_stored z_row m_yards m_wind m_players m_touches m_holder m_kept m_taped m_at m_statements m_hasImage m_isKeeping m_cursor m_onUp m_onDown m_longMany m_longLeast m_rowMany m_lots m_refused m_place m_pace m_skillOf m_tired m_kind m_figure m_height m_tape m_letter m_letterAt m_told m_stored m_row ++ pl) := hD
  refine lv_if_ne (tgt := 12) hx hb dX5_skill_5 (by decide) (fun c5 => ?_) (fun c5 => ?_)
  · rw [if_neg c5] at hF
    refine lv_iload_n hx hb dX5_skill_12 rfl (lv_at hl 2 rfl) ?_
    refine lv_iconst (v := (0 : Int32)) hx hb dX5_skill_13 (by decide) ?_
    refine lv_bipush (v := (9 : Int32)) hx hb dX5_skill_14 (by decide) ?_
    refine kc0_i (rx := fun (_ : Unit) => ([] : va_W)) (pl1 := fun _ => pl) (wr := [(zL, .inr (5, [.ref z_refused, .ref z_place, .ref z_pace, .ref z_skillOf, .ref z_tired, .ref z_kind, .ref z_figure, .ref z_height, .int m_yards, .int m_wind, .int m_players, .int m_touches, .int m_holder, .int m_kept, .ref z_tape, .ref z_letter, .ref z_letterAt, .ref z_told, .int m_taped, .int m_at, .int m_statements, .ref z_stored, .int m_hasImage, .int m_isKeeping, .int m_cursor, .long m_onUp, .long m_onDown, .int m_longMany, .int m_longLeast, .ref z_row, .int m_rowMany, .int m_lots])), (z_refused, .inl (cI, 7, .inl m_refused)), (z_place, .inl (cI, 5, .inl m_place)), (z_pace, .inl (cI, 5, .inl m_pace)), (z_skillOf, .inl (cI, 5, .inl m_skillOf)), (z_tired, .inl (cI, 5, .inl m_tired)), (z_kind, .inl (cI, 6, .inl m_kind)), (z_figure, .inl (cI, 6, .inl m_figure)), (z_height, .inl (cI, 6, .inl m_height)), (z_tape, .inl (cI, 80, .inl m_tape)), (z_letter, .inl (cI, 40, .inl m_letter)), (z_letterAt, .inl (cI, 40, .inl m_letterAt)), (z_told, .inl (cI, 120, .inl m_told)), (z_stored, .inl (cI, 90, .inl m_stored)), (z_row, .inl (cI, 8, .inl m_row))]) (fun (_ : Unit) => W_model cI cT zL z_refused z_place z_pace z_skillOf z_tired z_kind z_figure z_height z_tape z_letter z_letterAt z_told z_stored z_row m_yards m_wind m_players m_touches m_holder m_kept m_taped m_at m_statements m_hasImage m_isKeeping m_cursor m_onUp m_onDown m_longMany m_longLeast m_rowMany m_lots m_refused m_place m_pace m_skillOf m_tired m_kind m_figure m_height m_tape m_letter m_letterAt m_told m_stored m_row) (va_runS (As := [.int v2, .int (0 : Int32), .int (9 : Int32)]) (rest := []) ⟨hx, hb, hml, hown, ht⟩ (c_X5_bound l dC dI cI cT pl v2 (0 : Int32) (9 : Int32) _) (cwS 3 ht (gS wm_101 wm_102 wm_5 wm_103) rfl rfl rfl dv_X5_bound ⟨Nat.le_of_ble_eq_true rfl, Nat.le_of_ble_eq_true rfl⟩) (preS hK hNS (hP.part [] rfl) (hD.part [] (by decide) rfl)) rfl rfl hl.1 rfl (lv_room (Nat.le_of_ble_eq_true rfl)) dX5_skill_16 ⟨Nat.le_of_ble_eq_true rfl, Nat.le_of_ble_eq_true rfl⟩) hP hD hS hA [] [0, 1, 2, 3, 4, 5, 6, 7, 8, 9, 10, 11, 12, 13, 14] [0, 1, 2, 3, 4, 5, 6, 7, 8, 9, 10, 11, 12, 13, 14] rfl rfl (by decide) (by decide) (by decide) (fun _ => rfl) (fun r2 _ H locs e2 hP hD hS => ?_)
    rw [e2, lt1_def] at hF
    have hP : va_P (dC, dI) vwCl (W_model cI cT zL z_refused z_place z_pace z_skillOf z_tired z_kind z_figure z_height z_tape z_letter z_letterAt z_told z_stored z_row m_yards m_wind m_players m_touches m_holder m_kept m_taped m_at m_statements m_hasImage m_isKeeping m_cursor m_onUp m_onDown m_longMany m_longLeast m_rowMany m_lots m_refused m_place m_pace m_skillOf m_tired m_kind m_figure m_height m_tape m_letter m_letterAt m_told m_stored m_row ++ pl) H := hP
    have hD : va_D A (W_model cI cT zL z_refused z_place z_pace z_skillOf z_tired z_kind z_figure z_height z_tape z_letter z_letterAt z_told z_stored z_row m_yards m_wind m_players m_touches m_holder m_kept m_taped m_at m_statements m_hasImage m_isKeeping m_cursor m_onUp m_onDown m_longMany m_longLeast m_rowMany m_lots m_refused m_place m_pace m_skillOf m_tired m_kind m_figure m_height m_tape m_letter m_letterAt m_told m_stored m_row ++ pl) := hD
    refine lv_istore_n (lv' := [(3, .int r2), (0, .ref zL), (1, .int v1), (2, .int v2)]) hx hb dX5_skill_19 rfl hl (by decide) rfl (fun ls hl => ?_)
    refine lv_iload_n hx hb dX5_skill_20 rfl (lv_at hl 0 rfl) ?_
    refine lv_if_eq (tgt := 30) hx hb dX5_skill_21 (by decide) (fun c21 => ?_) (fun c21 => ?_)
    · rw [if_pos c21] at hF
      refine lv_aload_n hx hb dX5_skill_30 rfl (lv_at hl 1 rfl) ?_
      refine gf_X5_3 (v := .ref z_skillOf) hx hb ht hown hK hP 0 rfl (ht _ wm_72) rfl dX5_skill_31 ?_
      refine lv_iload_n hx hb dX5_skill_34 rfl (lv_at hl 2 rfl) ?_
      refine va_iald hx hb hK hP 4 0 rfl rfl (vp_of (by have zl_0 : (0 : Int32).toInt = 0 := (by decide); have q_c5 : ¬ Int32.toInt r1 = Int32.toInt (0 : Int32) := fun h => c5 (Int32.toInt_inj.mp h); have q_c21 := congrArg Int32.toInt c21; have f_c5 := mPlayer_t e1 c5; omega)) dX5_skill_35 ?_
      refine lv_istore (lv' := [(4, .int (m_skillOf (Int32.toNatClampNeg v1))), (3, .int r2), (0, .ref zL), (1, .int v1), (2, .int v2)]) hx hb dX5_skill_36 hl (by decide) rfl (fun ls hl => ?_)
      refine lv_aload_n hx hb dX5_skill_38 rfl (lv_at hl 2 rfl) ?_
      refine gf_X5_3 (v := .ref z_skillOf) hx hb ht hown hK hP 0 rfl (ht _ wm_72) rfl dX5_skill_39 ?_
      refine lv_iload_n hx hb dX5_skill_42 rfl (lv_at hl 3 rfl) ?_
      refine lv_iload_n hx hb dX5_skill_43 rfl (lv_at hl 4 rfl) ?_
      refine va_iast hx hb hK hP hD hS 4 0 rfl rfl (vp_of (by have zl_0 : (0 : Int32).toInt = 0 := (by decide); have q_c5 : ¬ Int32.toInt r1 = Int32.toInt (0 : Int32) := fun h => c5 (Int32.toInt_inj.mp h); have q_c21 := congrArg Int32.toInt c21; have f_c5 := mPlayer_t e1 c5; omega)) dX5_skill_44 (fun H locs hP hD hS => ?_)
      have hP : va_P (dC, dI) vwCl (W_model cI cT zL z_refused z_place z_pace z_skillOf z_tired z_kind z_figure z_height z_tape z_letter z_letterAt z_told z_stored z_row m_yards m_wind m_players m_touches m_holder m_kept m_taped m_at m_statements m_hasImage m_isKeeping m_cursor m_onUp m_onDown m_longMany m_longLeast m_rowMany m_lots m_refused m_place m_pace (upd m_skillOf (Int32.toNatClampNeg v1) v2) m_tired m_kind m_figure m_height m_tape m_letter m_letterAt m_told m_stored m_row ++ pl) H := hP
      have hD : va_D A (W_model cI cT zL z_refused z_place z_pace z_skillOf z_tired z_kind z_figure z_height z_tape z_letter z_letterAt z_told z_stored z_row m_yards m_wind m_players m_touches m_holder m_kept m_taped m_at m_statements m_hasImage m_isKeeping m_cursor m_onUp m_onDown m_longMany m_longLeast m_rowMany m_lots m_refused m_place m_pace (upd m_skillOf (Int32.toNatClampNeg v1) v2) m_tired m_kind m_figure m_height m_tape m_letter m_letterAt m_told m_stored m_row ++ pl) := hD
      refine lv_iload hx hb dX5_skill_45 (lv_at hl 0 rfl) ?_
      exact hret (m_skillOf (Int32.toNatClampNeg v1)) (m_refused, (upd m_skillOf (Int32.toNatClampNeg v1) v2)) _ _ _ _ hF.symm rfl hP hD hS dX5_skill_47
    · rw [if_neg c21] at hF
      refine lv_aload_n hx hb dX5_skill_24 rfl (lv_at hl 1 rfl) ?_
      refine lv_iload_n hx hb dX5_skill_25 rfl (lv_at hl 0 rfl) ?_
      refine kcF_i (rx := fun (u : (Nat → Int32)) => W_model cI cT zL z_refused z_place z_pace z_skillOf z_tired z_kind z_figure z_height z_tape z_letter z_letterAt z_told z_stored z_row m_yards m_wind m_players m_touches m_holder m_kept m_taped m_at m_statements m_hasImage m_isKeeping m_cursor m_onUp m_onDown m_longMany m_longLeast m_rowMany m_lots u m_place m_pace m_skillOf m_tired m_kind m_figure m_height m_tape m_letter m_letterAt m_told m_stored m_row) (pl1 := fun _ => pl) (va_runV (As := [.int r2]) (rest := []) ⟨hx, hb, hml, hown, ht⟩ (c_X5_no l dC dI cI cT zL z_refused z_place z_pace z_skillOf z_tired z_kind z_figure z_height z_tape z_letter z_letterAt z_told z_stored z_row m_yards m_wind m_players m_touches m_holder m_kept m_taped m_at m_statements m_hasImage m_isKeeping m_cursor m_onUp m_onDown m_longMany m_longLeast m_rowMany m_lots m_refused m_place m_pace m_skillOf m_tired m_kind m_figure m_height m_tape m_letter m_letterAt m_told m_stored m_row pl r2 (bnd_no e2) _) (cwV 1 ht (gV wm_104 wm_105 wm_106 wm_5 wm_107) rfl rfl rfl dv_X5_no ⟨Nat.le_of_ble_eq_true rfl, Nat.le_of_ble_eq_true rfl⟩) (preV hK hNS hP hD (va_recv hK hP (ci := 5) (q0 := 0) rfl rfl)) rfl rfl hl.1 rfl (lv_room (Nat.le_of_ble_eq_true rfl)) dX5_skill_26 ⟨Nat.le_of_ble_eq_true rfl, Nat.le_of_ble_eq_true rfl⟩) hP hD hS hA (fun r3 u3 H locs e3 hP hD hS => ?_)
      rw [e3, lt2_def] at hF
      have hP : va_P (dC, dI) vwCl (W_model cI cT zL z_refused z_place z_pace z_skillOf z_tired z_kind z_figure z_height z_tape z_letter z_letterAt z_told z_stored z_row m_yards m_wind m_players m_touches m_holder m_kept m_taped m_at m_statements m_hasImage m_isKeeping m_cursor m_onUp m_onDown m_longMany m_longLeast m_rowMany m_lots u3 m_place m_pace m_skillOf m_tired m_kind m_figure m_height m_tape m_letter m_letterAt m_told m_stored m_row ++ pl) H := hP
      have hD : va_D A (W_model cI cT zL z_refused z_place z_pace z_skillOf z_tired z_kind z_figure z_height z_tape z_letter z_letterAt z_told z_stored z_row m_yards m_wind m_players m_touches m_holder m_kept m_taped m_at m_statements m_hasImage m_isKeeping m_cursor m_onUp m_onDown m_longMany m_longLeast m_rowMany m_lots u3 m_place m_pace m_skillOf m_tired m_kind m_figure m_height m_tape m_letter m_letterAt m_told m_stored m_row ++ pl) := hD
      exact hret r3 (u3, m_skillOf) _ _ _ _ hF.symm rfl hP hD hS dX5_skill_29
  · rw [if_pos c5] at hF
    refine lv_iconst (v := (-1 : Int32)) hx hb dX5_skill_8 (by decide) ?_
    refine lv_goto (tgt := 19) hx hb dX5_skill_9 (by decide) ?_
    refine lv_istore_n (lv' := [(3, .int (-1 : Int32)), (0, .ref zL), (1, .int v1), (2, .int v2)]) hx hb dX5_skill_19 rfl hl (by decide) rfl (fun ls hl => ?_)
    refine lv_iload_n hx hb dX5_skill_20 rfl (lv_at hl 0 rfl) ?_
    refine lv_if_eq (tgt := 30) hx hb dX5_skill_21 (by decide) (fun c21 => absurd c21 (by decide)) (fun c21 => ?_)
    refine lv_aload_n hx hb dX5_skill_24 rfl (lv_at hl 1 rfl) ?_
    refine lv_iload_n hx hb dX5_skill_25 rfl (lv_at hl 0 rfl) ?_
    refine kcF_i (rx := fun (u : (Nat → Int32)) => W_model cI cT zL z_refused z_place z_pace z_skillOf z_tired z_kind z_figure z_height z_tape z_letter z_letterAt z_told z_stored z_row m_yards m_wind m_players m_touches m_holder m_kept m_taped m_at m_statements m_hasImage m_isKeeping m_cursor m_onUp m_onDown m_longMany m_longLeast m_rowMany m_lots u m_place m_pace m_skillOf m_tired m_kind m_figure m_height m_tape m_letter m_letterAt m_told m_stored m_row) (pl1 := fun _ => pl) (va_runV (As := [.int (-1 : Int32)]) (rest := []) ⟨hx, hb, hml, hown, ht⟩ (c_X5_no l dC dI cI cT zL z_refused z_place z_pace z_skillOf z_tired z_kind z_figure z_height z_tape z_letter z_letterAt z_told z_stored z_row m_yards m_wind m_players m_touches m_holder m_kept m_taped m_at m_statements m_hasImage m_isKeeping m_cursor m_onUp m_onDown m_longMany m_longLeast m_rowMany m_lots m_refused m_place m_pace m_skillOf m_tired m_kind m_figure m_height m_tape m_letter m_letterAt m_told m_stored m_row pl (-1 : Int32) (vp_of (by decide)) _) (cwV 1 ht (gV wm_104 wm_105 wm_106 wm_5 wm_107) rfl rfl rfl dv_X5_no ⟨Nat.le_of_ble_eq_true rfl, Nat.le_of_ble_eq_true rfl⟩) (preV hK hNS hP hD (va_recv hK hP (ci := 5) (q0 := 0) rfl rfl)) rfl rfl hl.1 rfl (lv_room (Nat.le_of_ble_eq_true rfl)) dX5_skill_26 ⟨Nat.le_of_ble_eq_true rfl, Nat.le_of_ble_eq_true rfl⟩) hP hD hS hA (fun r4 u4 H locs e4 hP hD hS => ?_)
    rw [e4, lt2_def] at hF
    have hP : va_P (dC, dI) vwCl (W_model cI cT zL z_refused z_place z_pace z_skillOf z_tired z_kind z_figure z_height z_tape z_letter z_letterAt z_told z_stored z_row m_yards m_wind m_players m_touches m_holder m_kept m_taped m_at m_statements m_hasImage m_isKeeping m_cursor m_onUp m_onDown m_longMany m_longLeast m_rowMany m_lots u4 m_place m_pace m_skillOf m_tired m_kind m_figure m_height m_tape m_letter m_letterAt m_told m_stored m_row ++ pl) H := hP
    have hD : va_D A (W_model cI cT zL z_refused z_place z_pace z_skillOf z_tired z_kind z_figure z_height z_tape z_letter z_letterAt z_told z_stored z_row m_yards m_wind m_players m_touches m_holder m_kept m_taped m_at m_statements m_hasImage m_isKeeping m_cursor m_onUp m_onDown m_longMany m_longLeast m_rowMany m_lots u4 m_place m_pace m_skillOf m_tired m_kind m_figure m_height m_tape m_letter m_letterAt m_told m_stored m_row ++ pl) := hD
    exact hret r4 (u4, m_skillOf) _ _ _ _ hF.symm rfl hP hD hS dX5_skill_29
