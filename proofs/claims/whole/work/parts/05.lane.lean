def lt2 {α1 α2 β : Type} (x : α1 × α2) (k : α1 → α2 → β) : β := k x.1 x.2
theorem lt2_def {α1 α2 β : Type} (a1 : α1) (a2 : α2) (k : α1 → α2 → β) : lt2 (a1, a2) k = k a1 a2 := rfl
def f_X0_hasPlayer (pc : Int32) (v1 : Int32) : Int32 := (if v1 < (0 : Int32) then (0 : Int32) else (if pc ≤ v1 then (0 : Int32) else (1 : Int32)))
abbrev rm_X0_hasPlayer : Room := { frames := 0, cells := 0, slots := 0, locals := 0 }
noncomputable abbrev wd_X0_hasPlayer : List Cond := .code yX0_hasPlayer cX0_hasPlayer 2 (some .boolean) :: wsL_law
set_option maxHeartbeats 4000000 in
set_option maxRecDepth 100000 in
theorem c_X0_hasPlayer (l : Launch) (dC : Nat → ClassId) (dI : Nat → Nat → Nat) (cI cT : ClassId) (L : Nat) (Y : Nat) (P : Nat) (S : Nat) (T : Nat) (R : Nat) (yd : Int32) (wd : Int32) (pc : Int32) (tc : Int32) (bl : Int32) (tm : Int32) (ya : Nat → Int32) (pa : Nat → Int32) (sa : Nat → Int32) (ta : Nat → Int32) (tr : Nat → Option Nat) (LP : List Nat) (tk tf th : Nat → Int32) (v1 : Int32) : CtI l (dC, dI) cI cT yX0_hasPlayer wd_X0_hasPlayer rm_X0_hasPlayer [.ref L, .int v1] (W_lane cI cT L Y P S T R yd wd pc tc bl tm ya pa sa ta tr ++ va_pl LP (tg tk tf th)) (fun (r : Int32) (_ : Unit) => f_X0_hasPlayer pc v1 = r ∧ (r = 0 ∨ r = 1)) (fun _ => W_lane cI cT L Y P S T R yd wd pc tc bl tm ya pa sa ta tr ++ va_pl LP (tg tk tf th)) 0 0 := by
  refine ct_i (cc := cX0_hasPlayer) (maxL := 2) (by decide) rfl (Nat.le_of_ble_eq_true rfl) ?_
  intro p e s m args below meth c A ls Q hx hb hml hts hown hmn hA hK hNS hP hD hS hl hret
  have ht : ∀ w ∈ wsL_law, w.before args s = true := fun w h => hts w (List.mem_cons_of_mem _ h)
  have hl : lv_has ls 2 [(0, .ref L), (1, .int v1)] := hl
  generalize hF : f_X0_hasPlayer pc v1 = F at hret
  unfold f_X0_hasPlayer at hF
  refine lv_iload_n hx hb dX0_hasPlayer_0 rfl (lv_at hl 1 rfl) ?_
  refine lv_if_lt (tgt := 16) hx hb dX0_hasPlayer_1 (by decide) (fun c1 => ?_) (fun c1 => ?_)
  · rw [if_pos c1] at hF
    refine lv_iconst (v := (0 : Int32)) hx hb dX0_hasPlayer_16 (by decide) ?_
    exact hret (0 : Int32) () _ _ _ _ ⟨hF.symm, (Or.inl rfl)⟩ (nb (Or.inl rfl)) hP hD hS dX0_hasPlayer_17
  · rw [if_neg c1] at hF
    refine lv_iload_n hx hb dX0_hasPlayer_4 rfl (lv_at hl 1 rfl) ?_
    refine lv_aload_n hx hb dX0_hasPlayer_5 rfl (lv_at hl 0 rfl) ?_
    refine gf_X0_2 (v := .int pc) hx hb ht hown hK hP 0 rfl (ht _ wm_36) rfl dX0_hasPlayer_6 ?_
    refine lv_icmp_ge (tgt := 16) hx hb dX0_hasPlayer_9 (by decide) (fun c9 => ?_) (fun c9 => ?_)
    · rw [if_pos c9] at hF
      refine lv_iconst (v := (0 : Int32)) hx hb dX0_hasPlayer_16 (by decide) ?_
      exact hret (0 : Int32) () _ _ _ _ ⟨hF.symm, (Or.inl rfl)⟩ (nb (Or.inl rfl)) hP hD hS dX0_hasPlayer_17
    · rw [if_neg c9] at hF
      refine lv_iconst (v := (1 : Int32)) hx hb dX0_hasPlayer_12 (by decide) ?_
      refine lv_goto (tgt := 17) hx hb dX0_hasPlayer_13 (by decide) ?_
      exact hret (1 : Int32) () _ _ _ _ ⟨hF.symm, (Or.inr rfl)⟩ (nb (Or.inr rfl)) hP hD hS dX0_hasPlayer_17
def f_X0_hasTouch (tc : Int32) (v1 : Int32) : Int32 := (if v1 < (0 : Int32) then (0 : Int32) else (if tc ≤ v1 then (0 : Int32) else (1 : Int32)))
abbrev rm_X0_hasTouch : Room := { frames := 0, cells := 0, slots := 0, locals := 0 }
noncomputable abbrev wd_X0_hasTouch : List Cond := .code yX0_hasTouch cX0_hasTouch 2 (some .boolean) :: wsL_law
set_option maxHeartbeats 4000000 in
set_option maxRecDepth 100000 in
theorem c_X0_hasTouch (l : Launch) (dC : Nat → ClassId) (dI : Nat → Nat → Nat) (cI cT : ClassId) (L : Nat) (Y : Nat) (P : Nat) (S : Nat) (T : Nat) (R : Nat) (yd : Int32) (wd : Int32) (pc : Int32) (tc : Int32) (bl : Int32) (tm : Int32) (ya : Nat → Int32) (pa : Nat → Int32) (sa : Nat → Int32) (ta : Nat → Int32) (tr : Nat → Option Nat) (LP : List Nat) (tk tf th : Nat → Int32) (v1 : Int32) : CtI l (dC, dI) cI cT yX0_hasTouch wd_X0_hasTouch rm_X0_hasTouch [.ref L, .int v1] (W_lane cI cT L Y P S T R yd wd pc tc bl tm ya pa sa ta tr ++ va_pl LP (tg tk tf th)) (fun (r : Int32) (_ : Unit) => f_X0_hasTouch tc v1 = r ∧ (r = 0 ∨ r = 1)) (fun _ => W_lane cI cT L Y P S T R yd wd pc tc bl tm ya pa sa ta tr ++ va_pl LP (tg tk tf th)) 0 0 := by
  refine ct_i (cc := cX0_hasTouch) (maxL := 2) (by decide) rfl (Nat.le_of_ble_eq_true rfl) ?_
  intro p e s m args below meth c A ls Q hx hb hml hts hown hmn hA hK hNS hP hD hS hl hret
  have ht : ∀ w ∈ wsL_law, w.before args s = true := fun w h => hts w (List.mem_cons_of_mem _ h)
  have hl : lv_has ls 2 [(0, .ref L), (1, .int v1)] := hl
  generalize hF : f_X0_hasTouch tc v1 = F at hret
  unfold f_X0_hasTouch at hF
  refine lv_iload_n hx hb dX0_hasTouch_0 rfl (lv_at hl 1 rfl) ?_
  refine lv_if_lt (tgt := 16) hx hb dX0_hasTouch_1 (by decide) (fun c1 => ?_) (fun c1 => ?_)
  · rw [if_pos c1] at hF
    refine lv_iconst (v := (0 : Int32)) hx hb dX0_hasTouch_16 (by decide) ?_
    exact hret (0 : Int32) () _ _ _ _ ⟨hF.symm, (Or.inl rfl)⟩ (nb (Or.inl rfl)) hP hD hS dX0_hasTouch_17
  · rw [if_neg c1] at hF
    refine lv_iload_n hx hb dX0_hasTouch_4 rfl (lv_at hl 1 rfl) ?_
    refine lv_aload_n hx hb dX0_hasTouch_5 rfl (lv_at hl 0 rfl) ?_
    refine gf_X0_3 (v := .int tc) hx hb ht hown hK hP 0 rfl (ht _ wm_37) rfl dX0_hasTouch_6 ?_
    refine lv_icmp_ge (tgt := 16) hx hb dX0_hasTouch_9 (by decide) (fun c9 => ?_) (fun c9 => ?_)
    · rw [if_pos c9] at hF
      refine lv_iconst (v := (0 : Int32)) hx hb dX0_hasTouch_16 (by decide) ?_
      exact hret (0 : Int32) () _ _ _ _ ⟨hF.symm, (Or.inl rfl)⟩ (nb (Or.inl rfl)) hP hD hS dX0_hasTouch_17
    · rw [if_neg c9] at hF
      refine lv_iconst (v := (1 : Int32)) hx hb dX0_hasTouch_12 (by decide) ?_
      refine lv_goto (tgt := 17) hx hb dX0_hasTouch_13 (by decide) ?_
      exact hret (1 : Int32) () _ _ _ _ ⟨hF.symm, (Or.inr rfl)⟩ (nb (Or.inr rfl)) hP hD hS dX0_hasTouch_17
def f_X0_hasYard (yd : Int32) (v1 : Int32) : Int32 := (if v1 < (0 : Int32) then (0 : Int32) else (if yd ≤ v1 then (0 : Int32) else (1 : Int32)))
abbrev rm_X0_hasYard : Room := { frames := 0, cells := 0, slots := 0, locals := 0 }
noncomputable abbrev wd_X0_hasYard : List Cond := .code yX0_hasYard cX0_hasYard 2 (some .boolean) :: wsL_law
set_option maxHeartbeats 4000000 in
set_option maxRecDepth 100000 in
theorem c_X0_hasYard (l : Launch) (dC : Nat → ClassId) (dI : Nat → Nat → Nat) (cI cT : ClassId) (L : Nat) (Y : Nat) (P : Nat) (S : Nat) (T : Nat) (R : Nat) (yd : Int32) (wd : Int32) (pc : Int32) (tc : Int32) (bl : Int32) (tm : Int32) (ya : Nat → Int32) (pa : Nat → Int32) (sa : Nat → Int32) (ta : Nat → Int32) (tr : Nat → Option Nat) (LP : List Nat) (tk tf th : Nat → Int32) (v1 : Int32) : CtI l (dC, dI) cI cT yX0_hasYard wd_X0_hasYard rm_X0_hasYard [.ref L, .int v1] (W_lane cI cT L Y P S T R yd wd pc tc bl tm ya pa sa ta tr ++ va_pl LP (tg tk tf th)) (fun (r : Int32) (_ : Unit) => f_X0_hasYard yd v1 = r ∧ (r = 0 ∨ r = 1)) (fun _ => W_lane cI cT L Y P S T R yd wd pc tc bl tm ya pa sa ta tr ++ va_pl LP (tg tk tf th)) 0 0 := by
  refine ct_i (cc := cX0_hasYard) (maxL := 2) (by decide) rfl (Nat.le_of_ble_eq_true rfl) ?_
  intro p e s m args below meth c A ls Q hx hb hml hts hown hmn hA hK hNS hP hD hS hl hret
  have ht : ∀ w ∈ wsL_law, w.before args s = true := fun w h => hts w (List.mem_cons_of_mem _ h)
  have hl : lv_has ls 2 [(0, .ref L), (1, .int v1)] := hl
  generalize hF : f_X0_hasYard yd v1 = F at hret
  unfold f_X0_hasYard at hF
  refine lv_iload_n hx hb dX0_hasYard_0 rfl (lv_at hl 1 rfl) ?_
  refine lv_if_lt (tgt := 16) hx hb dX0_hasYard_1 (by decide) (fun c1 => ?_) (fun c1 => ?_)
  · rw [if_pos c1] at hF
    refine lv_iconst (v := (0 : Int32)) hx hb dX0_hasYard_16 (by decide) ?_
    exact hret (0 : Int32) () _ _ _ _ ⟨hF.symm, (Or.inl rfl)⟩ (nb (Or.inl rfl)) hP hD hS dX0_hasYard_17
  · rw [if_neg c1] at hF
    refine lv_iload_n hx hb dX0_hasYard_4 rfl (lv_at hl 1 rfl) ?_
    refine lv_aload_n hx hb dX0_hasYard_5 rfl (lv_at hl 0 rfl) ?_
    refine gf_X0_0 (v := .int yd) hx hb ht hown hK hP 0 rfl (ht _ wm_34) rfl dX0_hasYard_6 ?_
    refine lv_icmp_ge (tgt := 16) hx hb dX0_hasYard_9 (by decide) (fun c9 => ?_) (fun c9 => ?_)
    · rw [if_pos c9] at hF
      refine lv_iconst (v := (0 : Int32)) hx hb dX0_hasYard_16 (by decide) ?_
      exact hret (0 : Int32) () _ _ _ _ ⟨hF.symm, (Or.inl rfl)⟩ (nb (Or.inl rfl)) hP hD hS dX0_hasYard_17
    · rw [if_neg c9] at hF
      refine lv_iconst (v := (1 : Int32)) hx hb dX0_hasYard_12 (by decide) ?_
      refine lv_goto (tgt := 17) hx hb dX0_hasYard_13 (by decide) ?_
      exact hret (1 : Int32) () _ _ _ _ ⟨hF.symm, (Or.inr rfl)⟩ (nb (Or.inr rfl)) hP hD hS dX0_hasYard_17
theorem hasPlayer_t {pc v r : Int32} (e : f_X0_hasPlayer pc v = r) (h : ¬ r = 0) : 0 ≤ v.toInt ∧ v.toInt < pc.toInt := by
  subst e
  unfold f_X0_hasPlayer at h
  split at h
  · exact absurd rfl h
  · next h1 =>
    split at h
    · exact absurd rfl h
    · next h2 =>
      have q1 := mt Int32.lt_iff_toInt_lt.mpr h1
      have q2 := mt Int32.le_iff_toInt_le.mpr h2
      have z : (0 : Int32).toInt = 0 := rfl
      omega
theorem hasTouch_t {tc v r : Int32} (e : f_X0_hasTouch tc v = r) (h : ¬ r = 0) : 0 ≤ v.toInt ∧ v.toInt < tc.toInt := by
  subst e
  unfold f_X0_hasTouch at h
  split at h
  · exact absurd rfl h
  · next h1 =>
    split at h
    · exact absurd rfl h
    · next h2 =>
      have q1 := mt Int32.lt_iff_toInt_lt.mpr h1
      have q2 := mt Int32.le_iff_toInt_le.mpr h2
      have z : (0 : Int32).toInt = 0 := rfl
      omega
def f_X0_isUp (pc : Int32) (bl : Int32) : Int32 := (lt1 (f_X0_hasPlayer pc bl) (fun r1 => r1))
abbrev rm_X0_isUp : Room := { frames := 1, cells := 0, slots := 0, locals := 21 }
noncomputable abbrev wd_X0_isUp : List Cond := .code yX0_isUp cX0_isUp 1 (some .boolean) :: wsL_law
set_option maxHeartbeats 4000000 in
set_option maxRecDepth 100000 in
theorem c_X0_isUp (l : Launch) (dC : Nat → ClassId) (dI : Nat → Nat → Nat) (cI cT : ClassId) (L : Nat) (Y : Nat) (P : Nat) (S : Nat) (T : Nat) (R : Nat) (yd : Int32) (wd : Int32) (pc : Int32) (tc : Int32) (bl : Int32) (tm : Int32) (ya : Nat → Int32) (pa : Nat → Int32) (sa : Nat → Int32) (ta : Nat → Int32) (tr : Nat → Option Nat) (LP : List Nat) (tk tf th : Nat → Int32) : CtI l (dC, dI) cI cT yX0_isUp wd_X0_isUp rm_X0_isUp [.ref L] (W_lane cI cT L Y P S T R yd wd pc tc bl tm ya pa sa ta tr ++ va_pl LP (tg tk tf th)) (fun (r : Int32) (_ : Unit) => f_X0_isUp pc bl = r ∧ (r = 0 ∨ r = 1)) (fun _ => W_lane cI cT L Y P S T R yd wd pc tc bl tm ya pa sa ta tr ++ va_pl LP (tg tk tf th)) 0 0 := by
  refine ct_i (cc := cX0_isUp) (maxL := 1) (by decide) rfl (Nat.le_of_ble_eq_true rfl) ?_
  intro p e s m args below meth c A ls Q hx hb hml hts hown hmn hA hK hNS hP hD hS hl hret
  have ht : ∀ w ∈ wsL_law, w.before args s = true := fun w h => hts w (List.mem_cons_of_mem _ h)
  have hl : lv_has ls 1 [(0, .ref L)] := hl
  generalize hF : f_X0_isUp pc bl = F at hret
  unfold f_X0_isUp at hF
  refine lv_aload_n hx hb dX0_isUp_0 rfl (lv_at hl 0 rfl) ?_
  refine lv_aload_n hx hb dX0_isUp_1 rfl (lv_at hl 0 rfl) ?_
  refine gf_X0_4 (v := .int bl) hx hb ht hown hK hP 0 rfl (ht _ wm_38) rfl dX0_isUp_2 ?_
  refine kcF_i (rx := fun (_ : Unit) => W_lane cI cT L Y P S T R yd wd pc tc bl tm ya pa sa ta tr) (pl1 := fun _ => va_pl LP (tg tk tf th)) (va_runV (As := [.int bl]) (rest := []) ⟨hx, hb, hml, hown, ht⟩ (c_X0_hasPlayer l dC dI cI cT L Y P S T R yd wd pc tc bl tm ya pa sa ta tr LP tk tf th bl _) (cwV 1 ht (gV wm_244 wm_245 wm_246 wm_14 wm_247) rfl rfl rfl dv_X0_hasPlayer ⟨Nat.le_of_ble_eq_true rfl, Nat.le_of_ble_eq_true rfl⟩) (preV hK hNS hP hD (va_recv hK hP (ci := 0) (q0 := 0) rfl rfl)) rfl rfl hl.1 rfl (lv_room (Nat.le_of_ble_eq_true rfl)) dX0_isUp_5 ⟨Nat.le_of_ble_eq_true rfl, Nat.le_of_ble_eq_true rfl⟩) hP hD hS hA (fun r1 _ H locs e1 hP hD hS => ?_)
  obtain ⟨e1, ze1⟩ := e1
  rw [e1, lt1_def] at hF
  have hP : va_P (dC, dI) vwCl (W_lane cI cT L Y P S T R yd wd pc tc bl tm ya pa sa ta tr ++ va_pl LP (tg tk tf th)) H := hP
  have hD : va_D A (W_lane cI cT L Y P S T R yd wd pc tc bl tm ya pa sa ta tr ++ va_pl LP (tg tk tf th)) := hD
  exact hret r1 () _ _ _ _ ⟨hF.symm, ze1⟩ (nb ze1) hP hD hS dX0_isUp_8
def f_X0_isInPlay (pc : Int32) (tc : Int32) (bl : Int32) : Int32 := (lt1 (f_X0_isUp pc bl) (fun r1 => (if r1 = (0 : Int32) then (0 : Int32) else (if tc ≤ (0 : Int32) then (0 : Int32) else (1 : Int32)))))
abbrev rm_X0_isInPlay : Room := { frames := 2, cells := 0, slots := 0, locals := 41 }
noncomputable abbrev wd_X0_isInPlay : List Cond := .code yX0_isInPlay cX0_isInPlay 1 (some .boolean) :: wsL_law
set_option maxHeartbeats 4000000 in
set_option maxRecDepth 100000 in
theorem c_X0_isInPlay (l : Launch) (dC : Nat → ClassId) (dI : Nat → Nat → Nat) (cI cT : ClassId) (L : Nat) (Y : Nat) (P : Nat) (S : Nat) (T : Nat) (R : Nat) (yd : Int32) (wd : Int32) (pc : Int32) (tc : Int32) (bl : Int32) (tm : Int32) (ya : Nat → Int32) (pa : Nat → Int32) (sa : Nat → Int32) (ta : Nat → Int32) (tr : Nat → Option Nat) (LP : List Nat) (tk tf th : Nat → Int32) : CtI l (dC, dI) cI cT yX0_isInPlay wd_X0_isInPlay rm_X0_isInPlay [.ref L] (W_lane cI cT L Y P S T R yd wd pc tc bl tm ya pa sa ta tr ++ va_pl LP (tg tk tf th)) (fun (r : Int32) (_ : Unit) => f_X0_isInPlay pc tc bl = r ∧ (r = 0 ∨ r = 1)) (fun _ => W_lane cI cT L Y P S T R yd wd pc tc bl tm ya pa sa ta tr ++ va_pl LP (tg tk tf th)) 0 0 := by
  refine ct_i (cc := cX0_isInPlay) (maxL := 1) (by decide) rfl (Nat.le_of_ble_eq_true rfl) ?_
  intro p e s m args below meth c A ls Q hx hb hml hts hown hmn hA hK hNS hP hD hS hl hret
  have ht : ∀ w ∈ wsL_law, w.before args s = true := fun w h => hts w (List.mem_cons_of_mem _ h)
  have hl : lv_has ls 1 [(0, .ref L)] := hl
  generalize hF : f_X0_isInPlay pc tc bl = F at hret
  unfold f_X0_isInPlay at hF
  refine lv_aload_n hx hb dX0_isInPlay_0 rfl (lv_at hl 0 rfl) ?_
  refine kcF_i (rx := fun (_ : Unit) => W_lane cI cT L Y P S T R yd wd pc tc bl tm ya pa sa ta tr) (pl1 := fun _ => va_pl LP (tg tk tf th)) (va_runV (As := []) (rest := []) ⟨hx, hb, hml, hown, ht⟩ (c_X0_isUp l dC dI cI cT L Y P S T R yd wd pc tc bl tm ya pa sa ta tr LP tk tf th _) (cwV 0 ht (gV wm_521 wm_434 wm_435 wm_14 wm_436) rfl rfl rfl dv_X0_isUp ⟨Nat.le_of_ble_eq_true rfl, Nat.le_of_ble_eq_true rfl⟩) (preV hK hNS hP hD (va_recv hK hP (ci := 0) (q0 := 0) rfl rfl)) rfl rfl hl.1 rfl (lv_room (Nat.le_of_ble_eq_true rfl)) dX0_isInPlay_1 ⟨Nat.le_of_ble_eq_true rfl, Nat.le_of_ble_eq_true rfl⟩) hP hD hS hA (fun r1 _ H locs e1 hP hD hS => ?_)
  obtain ⟨e1, ze1⟩ := e1
  rw [e1, lt1_def] at hF
  have hP : va_P (dC, dI) vwCl (W_lane cI cT L Y P S T R yd wd pc tc bl tm ya pa sa ta tr ++ va_pl LP (tg tk tf th)) H := hP
  have hD : va_D A (W_lane cI cT L Y P S T R yd wd pc tc bl tm ya pa sa ta tr ++ va_pl LP (tg tk tf th)) := hD
  refine lv_if_eq (tgt := 18) hx hb dX0_isInPlay_4 (by decide) (fun c4 => ?_) (fun c4 => ?_)
  · rw [if_pos c4] at hF
    refine lv_iconst (v := (0 : Int32)) hx hb dX0_isInPlay_18 (by decide) ?_
    exact hret (0 : Int32) () _ _ _ _ ⟨hF.symm, (Or.inl rfl)⟩ (nb (Or.inl rfl)) hP hD hS dX0_isInPlay_19
  · rw [if_neg c4] at hF
    refine lv_aload_n hx hb dX0_isInPlay_7 rfl (lv_at hl 0 rfl) ?_
    refine gf_X0_3 (v := .int tc) hx hb ht hown hK hP 0 rfl (ht _ wm_37) rfl dX0_isInPlay_8 ?_
    refine lv_if_le (tgt := 18) hx hb dX0_isInPlay_11 (by decide) (fun c11 => ?_) (fun c11 => ?_)
    · rw [if_pos c11] at hF
      refine lv_iconst (v := (0 : Int32)) hx hb dX0_isInPlay_18 (by decide) ?_
      exact hret (0 : Int32) () _ _ _ _ ⟨hF.symm, (Or.inl rfl)⟩ (nb (Or.inl rfl)) hP hD hS dX0_isInPlay_19
    · rw [if_neg c11] at hF
      refine lv_iconst (v := (1 : Int32)) hx hb dX0_isInPlay_14 (by decide) ?_
      refine lv_goto (tgt := 19) hx hb dX0_isInPlay_15 (by decide) ?_
      exact hret (1 : Int32) () _ _ _ _ ⟨hF.symm, (Or.inr rfl)⟩ (nb (Or.inr rfl)) hP hD hS dX0_isInPlay_19
def f_X0_handTo (v1 : Int32) : (Int32) × (Int32) := (v1, (0 : Int32))
abbrev rm_X0_handTo : Room := { frames := 0, cells := 0, slots := 0, locals := 0 }
noncomputable abbrev wd_X0_handTo : List Cond := .code yX0_handTo cX0_handTo 2 none :: wsL_law
set_option maxHeartbeats 4000000 in
set_option maxRecDepth 100000 in
theorem c_X0_handTo (l : Launch) (dC : Nat → ClassId) (dI : Nat → Nat → Nat) (cI cT : ClassId) (L : Nat) (Y : Nat) (P : Nat) (S : Nat) (T : Nat) (R : Nat) (yd : Int32) (wd : Int32) (pc : Int32) (tc : Int32) (bl : Int32) (tm : Int32) (ya : Nat → Int32) (pa : Nat → Int32) (sa : Nat → Int32) (ta : Nat → Int32) (tr : Nat → Option Nat) (LP : List Nat) (tk tf th : Nat → Int32) (v1 : Int32) : CtV l (dC, dI) cI cT yX0_handTo wd_X0_handTo rm_X0_handTo [.ref L, .int v1] (W_lane cI cT L Y P S T R yd wd pc tc bl tm ya pa sa ta tr ++ va_pl LP (tg tk tf th)) (fun (u : (Int32) × (Int32)) => f_X0_handTo v1 = u) (fun u => W_lane cI cT L Y P S T R yd wd pc tc u.1 u.2 ya pa sa ta tr ++ va_pl LP (tg tk tf th)) 0 0 := by
  refine ct_v (cc := cX0_handTo) (maxL := 2) (by decide) rfl (Nat.le_of_ble_eq_true rfl) ?_
  intro p e s m args below meth c A ls Q hx hb hml hts hown hmn hA hK hNS hP hD hS hl hret
  have ht : ∀ w ∈ wsL_law, w.before args s = true := fun w h => hts w (List.mem_cons_of_mem _ h)
  have hl : lv_has ls 2 [(0, .ref L), (1, .int v1)] := hl
  generalize hF : f_X0_handTo v1 = F at hret
  unfold f_X0_handTo at hF
  refine lv_aload_n hx hb dX0_handTo_0 rfl (lv_at hl 0 rfl) ?_
  refine lv_iload_n hx hb dX0_handTo_1 rfl (lv_at hl 1 rfl) ?_
  refine pf_X0_4 (v := .int v1) hx hb ht hown hK hP hD hS 0 rfl (ht _ wm_38) rfl rfl (Nat.le_of_ble_eq_true rfl) dX0_handTo_2 (fun H locs hP hD hS => ?_)
  have hP : va_P (dC, dI) vwCl (W_lane cI cT L Y P S T R yd wd pc tc v1 tm ya pa sa ta tr ++ va_pl LP (tg tk tf th)) H := hP
  have hD : va_D A (W_lane cI cT L Y P S T R yd wd pc tc v1 tm ya pa sa ta tr ++ va_pl LP (tg tk tf th)) := hD
  refine lv_aload_n hx hb dX0_handTo_5 rfl (lv_at hl 0 rfl) ?_
  refine lv_iconst (v := (0 : Int32)) hx hb dX0_handTo_6 (by decide) ?_
  refine pf_X0_5 (v := .int (0 : Int32)) hx hb ht hown hK hP hD hS 0 rfl (ht _ wm_39) rfl rfl (Nat.le_of_ble_eq_true rfl) dX0_handTo_7 (fun H locs hP hD hS => ?_)
  have hP : va_P (dC, dI) vwCl (W_lane cI cT L Y P S T R yd wd pc tc v1 (0 : Int32) ya pa sa ta tr ++ va_pl LP (tg tk tf th)) H := hP
  have hD : va_D A (W_lane cI cT L Y P S T R yd wd pc tc v1 (0 : Int32) ya pa sa ta tr ++ va_pl LP (tg tk tf th)) := hD
  exact hret (v1, (0 : Int32)) _ _ _ _ hF.symm hP hD hS dX0_handTo_10
def f_X0_becomeWindy (wd : Int32) (v1 : Int32) : Int32 × (Int32) := (if v1 < (-3 : Int32) then ((0 : Int32), wd) else (if v1 ≤ (3 : Int32) then ((1 : Int32), v1) else ((0 : Int32), wd)))
abbrev rm_X0_becomeWindy : Room := { frames := 0, cells := 0, slots := 0, locals := 0 }
noncomputable abbrev wd_X0_becomeWindy : List Cond := .code yX0_becomeWindy cX0_becomeWindy 2 (some .boolean) :: wsL_law
set_option maxHeartbeats 4000000 in
set_option maxRecDepth 100000 in
theorem c_X0_becomeWindy (l : Launch) (dC : Nat → ClassId) (dI : Nat → Nat → Nat) (cI cT : ClassId) (L : Nat) (Y : Nat) (P : Nat) (S : Nat) (T : Nat) (R : Nat) (yd : Int32) (wd : Int32) (pc : Int32) (tc : Int32) (bl : Int32) (tm : Int32) (ya : Nat → Int32) (pa : Nat → Int32) (sa : Nat → Int32) (ta : Nat → Int32) (tr : Nat → Option Nat) (LP : List Nat) (tk tf th : Nat → Int32) (v1 : Int32) : CtI l (dC, dI) cI cT yX0_becomeWindy wd_X0_becomeWindy rm_X0_becomeWindy [.ref L, .int v1] (W_lane cI cT L Y P S T R yd wd pc tc bl tm ya pa sa ta tr ++ va_pl LP (tg tk tf th)) (fun (r : Int32) (u : (Int32)) => f_X0_becomeWindy wd v1 = (r, u) ∧ (r = 0 ∨ r = 1)) (fun u => W_lane cI cT L Y P S T R yd u pc tc bl tm ya pa sa ta tr ++ va_pl LP (tg tk tf th)) 0 0 := by
  refine ct_i (cc := cX0_becomeWindy) (maxL := 2) (by decide) rfl (Nat.le_of_ble_eq_true rfl) ?_
  intro p e s m args below meth c A ls Q hx hb hml hts hown hmn hA hK hNS hP hD hS hl hret
  have ht : ∀ w ∈ wsL_law, w.before args s = true := fun w h => hts w (List.mem_cons_of_mem _ h)
  have hl : lv_has ls 2 [(0, .ref L), (1, .int v1)] := hl
  generalize hF : f_X0_becomeWindy wd v1 = F at hret
  unfold f_X0_becomeWindy at hF
  refine lv_iload_n hx hb dX0_becomeWindy_0 rfl (lv_at hl 1 rfl) ?_
  refine lv_bipush (v := (-3 : Int32)) hx hb dX0_becomeWindy_1 (by decide) ?_
  refine lv_icmp_lt (tgt := 11) hx hb dX0_becomeWindy_3 (by decide) (fun c3 => ?_) (fun c3 => ?_)
  · rw [if_pos c3] at hF
    refine lv_iconst (v := (0 : Int32)) hx hb dX0_becomeWindy_11 (by decide) ?_
    exact hret (0 : Int32) wd _ _ _ _ ⟨hF.symm, (Or.inl rfl)⟩ (nb (Or.inl rfl)) hP hD hS dX0_becomeWindy_12
  · rw [if_neg c3] at hF
    refine lv_iload_n hx hb dX0_becomeWindy_6 rfl (lv_at hl 1 rfl) ?_
    refine lv_iconst (v := (3 : Int32)) hx hb dX0_becomeWindy_7 (by decide) ?_
    refine lv_icmp_le (tgt := 13) hx hb dX0_becomeWindy_8 (by decide) (fun c8 => ?_) (fun c8 => ?_)
    · rw [if_pos c8] at hF
      refine lv_aload_n hx hb dX0_becomeWindy_13 rfl (lv_at hl 0 rfl) ?_
      refine lv_iload_n hx hb dX0_becomeWindy_14 rfl (lv_at hl 1 rfl) ?_
      refine pf_X0_1 (v := .int v1) hx hb ht hown hK hP hD hS 0 rfl (ht _ wm_35) rfl rfl (Nat.le_of_ble_eq_true rfl) dX0_becomeWindy_15 (fun H locs hP hD hS => ?_)
      have hP : va_P (dC, dI) vwCl (W_lane cI cT L Y P S T R yd v1 pc tc bl tm ya pa sa ta tr ++ va_pl LP (tg tk tf th)) H := hP
      have hD : va_D A (W_lane cI cT L Y P S T R yd v1 pc tc bl tm ya pa sa ta tr ++ va_pl LP (tg tk tf th)) := hD
      refine lv_iconst (v := (1 : Int32)) hx hb dX0_becomeWindy_18 (by decide) ?_
      exact hret (1 : Int32) v1 _ _ _ _ ⟨hF.symm, (Or.inr rfl)⟩ (nb (Or.inr rfl)) hP hD hS dX0_becomeWindy_19
    · rw [if_neg c8] at hF
      refine lv_iconst (v := (0 : Int32)) hx hb dX0_becomeWindy_11 (by decide) ?_
      exact hret (0 : Int32) wd _ _ _ _ ⟨hF.symm, (Or.inl rfl)⟩ (nb (Or.inl rfl)) hP hD hS dX0_becomeWindy_12
def f_X0_startWith (pc : Int32) (bl : Int32) (tm : Int32) (v1 : Int32) : Int32 × (Int32) × (Int32) := (lt1 (f_X0_hasPlayer pc v1) (fun r1 => (if r1 = (0 : Int32) then ((0 : Int32), bl, tm) else (lt2 (f_X0_handTo v1) (fun u2_1 u2_2 => ((1 : Int32), u2_1, u2_2))))))
abbrev rm_X0_startWith : Room := { frames := 1, cells := 0, slots := 0, locals := 21 }
noncomputable abbrev wd_X0_startWith : List Cond := .code yX0_startWith cX0_startWith 2 (some .boolean) :: wsL_law
set_option maxHeartbeats 4000000 in
set_option maxRecDepth 100000 in
theorem c_X0_startWith (l : Launch) (dC : Nat → ClassId) (dI : Nat → Nat → Nat) (cI cT : ClassId) (L : Nat) (Y : Nat) (P : Nat) (S : Nat) (T : Nat) (R : Nat) (yd : Int32) (wd : Int32) (pc : Int32) (tc : Int32) (bl : Int32) (tm : Int32) (ya : Nat → Int32) (pa : Nat → Int32) (sa : Nat → Int32) (ta : Nat → Int32) (tr : Nat → Option Nat) (LP : List Nat) (tk tf th : Nat → Int32) (v1 : Int32) : CtI l (dC, dI) cI cT yX0_startWith wd_X0_startWith rm_X0_startWith [.ref L, .int v1] (W_lane cI cT L Y P S T R yd wd pc tc bl tm ya pa sa ta tr ++ va_pl LP (tg tk tf th)) (fun (r : Int32) (u : (Int32) × (Int32)) => f_X0_startWith pc bl tm v1 = (r, u) ∧ (r = 0 ∨ r = 1)) (fun u => W_lane cI cT L Y P S T R yd wd pc tc u.1 u.2 ya pa sa ta tr ++ va_pl LP (tg tk tf th)) 0 0 := by
  refine ct_i (cc := cX0_startWith) (maxL := 2) (by decide) rfl (Nat.le_of_ble_eq_true rfl) ?_
  intro p e s m args below meth c A ls Q hx hb hml hts hown hmn hA hK hNS hP hD hS hl hret
  have ht : ∀ w ∈ wsL_law, w.before args s = true := fun w h => hts w (List.mem_cons_of_mem _ h)
  have hl : lv_has ls 2 [(0, .ref L), (1, .int v1)] := hl
  generalize hF : f_X0_startWith pc bl tm v1 = F at hret
  unfold f_X0_startWith at hF
  refine lv_aload_n hx hb dX0_startWith_0 rfl (lv_at hl 0 rfl) ?_
  refine lv_iload_n hx hb dX0_startWith_1 rfl (lv_at hl 1 rfl) ?_
  refine kcF_i (rx := fun (_ : Unit) => W_lane cI cT L Y P S T R yd wd pc tc bl tm ya pa sa ta tr) (pl1 := fun _ => va_pl LP (tg tk tf th)) (va_runV (As := [.int v1]) (rest := []) ⟨hx, hb, hml, hown, ht⟩ (c_X0_hasPlayer l dC dI cI cT L Y P S T R yd wd pc tc bl tm ya pa sa ta tr LP tk tf th v1 _) (cwV 1 ht (gV wm_244 wm_245 wm_246 wm_14 wm_247) rfl rfl rfl dv_X0_hasPlayer ⟨Nat.le_of_ble_eq_true rfl, Nat.le_of_ble_eq_true rfl⟩) (preV hK hNS hP hD (va_recv hK hP (ci := 0) (q0 := 0) rfl rfl)) rfl rfl hl.1 rfl (lv_room (Nat.le_of_ble_eq_true rfl)) dX0_startWith_2 ⟨Nat.le_of_ble_eq_true rfl, Nat.le_of_ble_eq_true rfl⟩) hP hD hS hA (fun r1 _ H locs e1 hP hD hS => ?_)
  obtain ⟨e1, ze1⟩ := e1
  rw [e1, lt1_def] at hF
  have hP : va_P (dC, dI) vwCl (W_lane cI cT L Y P S T R yd wd pc tc bl tm ya pa sa ta tr ++ va_pl LP (tg tk tf th)) H := hP
  have hD : va_D A (W_lane cI cT L Y P S T R yd wd pc tc bl tm ya pa sa ta tr ++ va_pl LP (tg tk tf th)) := hD
  refine lv_if_ne (tgt := 10) hx hb dX0_startWith_5 (by decide) (fun c5 => ?_) (fun c5 => ?_)
  · rw [if_neg c5] at hF
    refine lv_aload_n hx hb dX0_startWith_10 rfl (lv_at hl 0 rfl) ?_
    refine lv_iload_n hx hb dX0_startWith_11 rfl (lv_at hl 1 rfl) ?_
    refine kcF_v (rx := fun (u : (Int32) × (Int32)) => W_lane cI cT L Y P S T R yd wd pc tc u.1 u.2 ya pa sa ta tr) (pl1 := fun _ => va_pl LP (tg tk tf th)) (va_runV (As := [.int v1]) (rest := []) ⟨hx, hb, hml, hown, ht⟩ (c_X0_handTo l dC dI cI cT L Y P S T R yd wd pc tc bl tm ya pa sa ta tr LP tk tf th v1 _) (cwV 1 ht (gV wm_248 wm_249 wm_250 wm_14 wm_251) rfl rfl rfl dv_X0_handTo ⟨Nat.le_of_ble_eq_true rfl, Nat.le_of_ble_eq_true rfl⟩) (preV hK hNS hP hD (va_recv hK hP (ci := 0) (q0 := 0) rfl rfl)) rfl rfl hl.1 rfl (lv_room (Nat.le_of_ble_eq_true rfl)) dX0_startWith_12 ⟨Nat.le_of_ble_eq_true rfl, Nat.le_of_ble_eq_true rfl⟩) hP hD hS hA (fun u2 H locs e2 hP hD hS => ?_)
    obtain ⟨u2_1, u2_2⟩ := u2
    rw [e2, lt2_def] at hF
    have hP : va_P (dC, dI) vwCl (W_lane cI cT L Y P S T R yd wd pc tc u2_1 u2_2 ya pa sa ta tr ++ va_pl LP (tg tk tf th)) H := hP
    have hD : va_D A (W_lane cI cT L Y P S T R yd wd pc tc u2_1 u2_2 ya pa sa ta tr ++ va_pl LP (tg tk tf th)) := hD
    refine lv_iconst (v := (1 : Int32)) hx hb dX0_startWith_15 (by decide) ?_
    exact hret (1 : Int32) (u2_1, u2_2) _ _ _ _ ⟨hF.symm, (Or.inr rfl)⟩ (nb (Or.inr rfl)) hP hD hS dX0_startWith_16
  · rw [if_pos c5] at hF
    refine lv_iconst (v := (0 : Int32)) hx hb dX0_startWith_8 (by decide) ?_
    exact hret (0 : Int32) (bl, tm) _ _ _ _ ⟨hF.symm, (Or.inl rfl)⟩ (nb (Or.inl rfl)) hP hD hS dX0_startWith_9
def f_X0_allTired_L4 (pc : Int32) (ta : Nat → Int32) : Nat → Int32 → Int32 → Int32
  | 0, v1, v2 => 0
  | n_4 + 1, v1, v2 => (if pc ≤ v2 then v1 else (f_X0_allTired_L4 pc ta n_4 (v1 + (ta (Int32.toNatClampNeg v2))) (v2 + (1 : Int32))))
def f_X0_allTired (pc : Int32) (ta : Nat → Int32) : Int32 := (f_X0_allTired_L4 pc ta 6 (0 : Int32) (0 : Int32))
abbrev rm_X0_allTired : Room := { frames := 0, cells := 0, slots := 0, locals := 0 }
noncomputable abbrev wd_X0_allTired : List Cond := .code yX0_allTired cX0_allTired 3 (some .int) :: wsL_law
set_option maxHeartbeats 4000000 in
set_option maxRecDepth 100000 in
theorem c_X0_allTired (l : Launch) (dC : Nat → ClassId) (dI : Nat → Nat → Nat) (cI cT : ClassId) (L : Nat) (Y : Nat) (P : Nat) (S : Nat) (T : Nat) (R : Nat) (yd : Int32) (wd : Int32) (pc : Int32) (tc : Int32) (bl : Int32) (tm : Int32) (ya : Nat → Int32) (pa : Nat → Int32) (sa : Nat → Int32) (ta : Nat → Int32) (tr : Nat → Option Nat) (LP : List Nat) (tk tf th : Nat → Int32) (hpc : 0 ≤ pc.toInt ∧ pc.toInt ≤ 5) : CtI l (dC, dI) cI cT yX0_allTired wd_X0_allTired rm_X0_allTired [.ref L] (W_lane cI cT L Y P S T R yd wd pc tc bl tm ya pa sa ta tr ++ va_pl LP (tg tk tf th)) (fun (r : Int32) (_ : Unit) => f_X0_allTired pc ta = r) (fun _ => W_lane cI cT L Y P S T R yd wd pc tc bl tm ya pa sa ta tr ++ va_pl LP (tg tk tf th)) 0 0 := by
  refine ct_i (cc := cX0_allTired) (maxL := 3) (by decide) rfl (Nat.le_of_ble_eq_true rfl) ?_
  intro p e s m args below meth c A ls Q hx hb hml hts hown hmn hA hK hNS hP hD hS hl hret
  have ht : ∀ w ∈ wsL_law, w.before args s = true := fun w h => hts w (List.mem_cons_of_mem _ h)
  have hl : lv_has ls 3 [(0, .ref L)] := hl
  generalize hF : f_X0_allTired pc ta = F at hret
  unfold f_X0_allTired at hF
  have K_4 : ∀ (n_4 : Nat) (v1 : Int32) (v2 : Int32) (H : Heap) (locs : List Loc) (ls : Array Slot), (0 ≤ v2.toInt) → (pc.toInt - v2.toInt).toNat < n_4 → lv_has ls 3 [(0, .ref L), (1, .int v1), (2, .int v2)] → va_P (dC, dI) vwCl (W_lane cI cT L Y P S T R yd wd pc tc bl tm ya pa sa ta tr ++ va_pl LP (tg tk tf th)) H → va_D A (W_lane cI cT L Y P S T R yd wd pc tc bl tm ya pa sa ta tr ++ va_pl LP (tg tk tf th)) → va_S A s.heap H locs → f_X0_allTired_L4 pc ta n_4 v1 v2 = F → W p l e rm_X0_allTired s m args below meth c H locs 0 0 Q (F0 m 4 ls []) := by
    intro n_4
    induction n_4 with
    | zero => intro v1 v2 H locs ls hinv_4 hms; exact absurd hms (Nat.not_lt_zero _)
    | succ n_4 ih_4 =>
      intro v1 v2 H locs ls hinv_4 hms_4 hl hP hD hS hF
      rw [f_X0_allTired_L4] at hF
      refine lv_iload_n hx hb dX0_allTired_4 rfl (lv_at hl 2 rfl) ?_
      refine lv_aload_n hx hb dX0_allTired_5 rfl (lv_at hl 0 rfl) ?_
      refine gf_X0_2 (v := .int pc) hx hb ht hown hK hP 0 rfl (ht _ wm_36) rfl dX0_allTired_6 ?_
      refine lv_icmp_ge (tgt := 27) hx hb dX0_allTired_9 (by decide) (fun c9 => ?_) (fun c9 => ?_)
      · rw [if_pos c9] at hF
        refine lv_iload_n hx hb dX0_allTired_27 rfl (lv_at hl 1 rfl) ?_
        exact hret v1 () _ _ _ _ hF.symm rfl hP hD hS dX0_allTired_28
      · rw [if_neg c9] at hF
        refine lv_iload_n hx hb dX0_allTired_12 rfl (lv_at hl 1 rfl) ?_
        refine lv_aload_n hx hb dX0_allTired_13 rfl (lv_at hl 0 rfl) ?_
        refine gf_X0_9 (v := .ref T) hx hb ht hown hK hP 0 rfl (ht _ wm_43) rfl dX0_allTired_14 ?_
        refine lv_iload_n hx hb dX0_allTired_17 rfl (lv_at hl 2 rfl) ?_
        refine va_iald hx hb hK hP 4 0 rfl rfl (vp_of (by have q_c9 := mt Int32.le_iff_toInt_le.mpr c9; have i_c9 := inc_nle c9; omega)) dX0_allTired_18 ?_
        refine lv_iadd hx hb dX0_allTired_19 ?_
        refine lv_istore_n (lv' := [(1, .int (v1 + (ta (Int32.toNatClampNeg v2)))), (0, .ref L), (2, .int v2)]) hx hb dX0_allTired_20 rfl hl (by decide) rfl (fun ls hl => ?_)
        refine lv_iinc (v := (v2 + (1 : Int32))) (lv' := [(2, .int (v2 + (1 : Int32))), (1, .int (v1 + (ta (Int32.toNatClampNeg v2)))), (0, .ref L)]) hx hb dX0_allTired_21 hl (k := 2) rfl (by rfl) (by decide) rfl (fun ls hl => ?_)
        refine lv_goto (tgt := 4) hx hb dX0_allTired_24 (by decide) ?_
        exact ih_4 (v1 + (ta (Int32.toNatClampNeg v2))) (v2 + (1 : Int32)) _ _ _ (by have zl_0 : (1 : Int32).toInt = 1 := (by decide); have q_c9 := mt Int32.le_iff_toInt_le.mpr c9; have i_c9 := inc_nle c9; omega) (by have zl_0 : (1 : Int32).toInt = 1 := (by decide); have q_c9 := mt Int32.le_iff_toInt_le.mpr c9; have i_c9 := inc_nle c9; omega) (lv_sub hl [2, 1, 0] rfl) hP hD hS hF
  refine lv_iconst (v := (0 : Int32)) hx hb dX0_allTired_0 (by decide) ?_
  refine lv_istore_n (lv' := [(1, .int (0 : Int32)), (0, .ref L)]) hx hb dX0_allTired_1 rfl hl (by decide) rfl (fun ls hl => ?_)
  refine lv_iconst (v := (0 : Int32)) hx hb dX0_allTired_2 (by decide) ?_
  refine lv_istore_n (lv' := [(2, .int (0 : Int32)), (1, .int (0 : Int32)), (0, .ref L)]) hx hb dX0_allTired_3 rfl hl (by decide) rfl (fun ls hl => ?_)
  exact K_4 6 (0 : Int32) (0 : Int32) _ _ _ (by have zl_0 : (0 : Int32).toInt = 0 := (by decide); omega) (by have zl_0 : (0 : Int32).toInt = 0 := (by decide); omega) (lv_sub hl [2, 1, 0] rfl) hP hD hS hF
def f_X0_becomeLong_L20 (pc : Int32) : Nat → Int32 → Int32 → (Nat → Int32) → Int32 × (Int32) × (Nat → Int32)
  | 0, v2, yd_l, ya_l => (0, yd_l, ya_l)
  | n_20 + 1, v2, yd_l, ya_l => (if pc ≤ v2 then ((1 : Int32), yd_l, ya_l) else (f_X0_becomeLong_L20 pc n_20 (v2 + (1 : Int32)) yd_l (upd ya_l (Int32.toNatClampNeg v2) (if (yd_l - (1 : Int32)) < (ya_l (Int32.toNatClampNeg v2)) then (yd_l - (1 : Int32)) else (ya_l (Int32.toNatClampNeg v2))))))
def f_X0_becomeLong (yd : Int32) (pc : Int32) (ya : Nat → Int32) (v1 : Int32) : Int32 × (Int32) × (Nat → Int32) := (if v1 < (3 : Int32) then ((0 : Int32), yd, ya) else (if v1 ≤ (12 : Int32) then (f_X0_becomeLong_L20 pc 6 (0 : Int32) v1 ya) else ((0 : Int32), yd, ya)))
abbrev rm_X0_becomeLong : Room := { frames := 1, cells := 0, slots := 0, locals := 21 }
noncomputable abbrev wd_X0_becomeLong : List Cond := .code yX0_becomeLong cX0_becomeLong 3 (some .boolean) :: wsL_law
set_option maxHeartbeats 4000000 in
set_option maxRecDepth 100000 in
theorem c_X0_becomeLong (l : Launch) (dC : Nat → ClassId) (dI : Nat → Nat → Nat) (cI cT : ClassId) (L : Nat) (Y : Nat) (P : Nat) (S : Nat) (T : Nat) (R : Nat) (yd : Int32) (wd : Int32) (pc : Int32) (tc : Int32) (bl : Int32) (tm : Int32) (ya : Nat → Int32) (pa : Nat → Int32) (sa : Nat → Int32) (ta : Nat → Int32) (tr : Nat → Option Nat) (LP : List Nat) (tk tf th : Nat → Int32) (v1 : Int32) (hpc : 0 ≤ pc.toInt ∧ pc.toInt ≤ 5) : CtI l (dC, dI) cI cT yX0_becomeLong wd_X0_becomeLong rm_X0_becomeLong [.ref L, .int v1] (W_lane cI cT L Y P S T R yd wd pc tc bl tm ya pa sa ta tr ++ va_pl LP (tg tk tf th)) (fun (r : Int32) (u : (Int32) × (Nat → Int32)) => f_X0_becomeLong yd pc ya v1 = (r, u) ∧ (r = 0 ∨ r = 1)) (fun u => W_lane cI cT L Y P S T R u.1 wd pc tc bl tm u.2 pa sa ta tr ++ va_pl LP (tg tk tf th)) 0 0 := by
  refine ct_i (cc := cX0_becomeLong) (maxL := 3) (by decide) rfl (Nat.le_of_ble_eq_true rfl) ?_
  intro p e s m args below meth c A ls Q hx hb hml hts hown hmn hA hK hNS hP hD hS hl hret
  have ht : ∀ w ∈ wsL_law, w.before args s = true := fun w h => hts w (List.mem_cons_of_mem _ h)
  have hl : lv_has ls 3 [(0, .ref L), (1, .int v1)] := hl
  generalize hF : f_X0_becomeLong yd pc ya v1 = F at hret
  unfold f_X0_becomeLong at hF
  have K_20 : ∀ (n_20 : Nat) (v2 : Int32) (yd_l : Int32) (ya_l : Nat → Int32) (H : Heap) (locs : List Loc) (ls : Array Slot), (0 ≤ v2.toInt) → (pc.toInt - v2.toInt).toNat < n_20 → lv_has ls 3 [(0, .ref L), (2, .int v2)] → va_P (dC, dI) vwCl (W_lane cI cT L Y P S T R yd_l wd pc tc bl tm ya_l pa sa ta tr ++ va_pl LP (tg tk tf th)) H → va_D A (W_lane cI cT L Y P S T R yd_l wd pc tc bl tm ya_l pa sa ta tr ++ va_pl LP (tg tk tf th)) → va_S A s.heap H locs → f_X0_becomeLong_L20 pc n_20 v2 yd_l ya_l = F → W p l e rm_X0_becomeLong s m args below meth c H locs 0 0 Q (F0 m 20 ls []) := by
    intro n_20
    induction n_20 with
    | zero => intro v2 yd_l ya_l H locs ls hinv_20 hms; exact absurd hms (Nat.not_lt_zero _)
    | succ n_20 ih_20 =>
      intro v2 yd_l ya_l H locs ls hinv_20 hms_20 hl hP hD hS hF
      rw [f_X0_becomeLong_L20] at hF
      refine lv_iload_n hx hb dX0_becomeLong_20 rfl (lv_at hl 1 rfl) ?_
      refine lv_aload_n hx hb dX0_becomeLong_21 rfl (lv_at hl 0 rfl) ?_
      refine gf_X0_2 (v := .int pc) hx hb ht hown hK hP 0 rfl (ht _ wm_36) rfl dX0_becomeLong_22 ?_
      refine lv_icmp_ge (tgt := 55) hx hb dX0_becomeLong_25 (by decide) (fun c25 => ?_) (fun c25 => ?_)
      · rw [if_pos c25] at hF
        refine lv_iconst (v := (1 : Int32)) hx hb dX0_becomeLong_55 (by decide) ?_
        exact hret (1 : Int32) (yd_l, ya_l) _ _ _ _ ⟨hF.symm, (Or.inr rfl)⟩ (nb (Or.inr rfl)) hP hD hS dX0_becomeLong_56
      · rw [if_neg c25] at hF
        refine lv_aload_n hx hb dX0_becomeLong_28 rfl (lv_at hl 0 rfl) ?_
        refine gf_X0_6 (v := .ref Y) hx hb ht hown hK hP 0 rfl (ht _ wm_40) rfl dX0_becomeLong_29 ?_
        refine lv_iload_n hx hb dX0_becomeLong_32 rfl (lv_at hl 1 rfl) ?_
        refine lv_aload_n hx hb dX0_becomeLong_33 rfl (lv_at hl 0 rfl) ?_
        refine gf_X0_6 (v := .ref Y) hx hb ht hown hK hP 0 rfl (ht _ wm_40) rfl dX0_becomeLong_34 ?_
        refine lv_iload_n hx hb dX0_becomeLong_37 rfl (lv_at hl 1 rfl) ?_
        refine va_iald hx hb hK hP 1 0 rfl rfl (vp_of (by have q_c25 := mt Int32.le_iff_toInt_le.mpr c25; have i_c25 := inc_nle c25; omega)) dX0_becomeLong_38 ?_
        refine lv_aload_n hx hb dX0_becomeLong_39 rfl (lv_at hl 0 rfl) ?_
        refine gf_X0_0 (v := .int yd_l) hx hb ht hown hK hP 0 rfl (ht _ wm_34) rfl dX0_becomeLong_40 ?_
        refine lv_iconst (v := (1 : Int32)) hx hb dX0_becomeLong_43 (by decide) ?_
        refine lv_isub hx hb dX0_becomeLong_44 ?_
        refine va_mmin hx hb (hml.trans hl.1.symm) hown (ht _ wm_212) (ht _ wm_213) (ht _ wm_214) (ht _ wm_215) (Nat.le_of_ble_eq_true rfl) (Nat.le_of_ble_eq_true rfl) (Nat.zero_le _) (Nat.zero_le _) dX0_becomeLong_45 ?_
        refine va_iast hx hb hK hP hD hS 1 0 rfl rfl (vp_of (by have q_c25 := mt Int32.le_iff_toInt_le.mpr c25; have i_c25 := inc_nle c25; omega)) dX0_becomeLong_48 (fun H locs hP hD hS => ?_)
        have hP : va_P (dC, dI) vwCl (W_lane cI cT L Y P S T R yd_l wd pc tc bl tm (upd ya_l (Int32.toNatClampNeg v2) (if (yd_l - (1 : Int32)) < (ya_l (Int32.toNatClampNeg v2)) then (yd_l - (1 : Int32)) else (ya_l (Int32.toNatClampNeg v2)))) pa sa ta tr ++ va_pl LP (tg tk tf th)) H := hP
        have hD : va_D A (W_lane cI cT L Y P S T R yd_l wd pc tc bl tm (upd ya_l (Int32.toNatClampNeg v2) (if (yd_l - (1 : Int32)) < (ya_l (Int32.toNatClampNeg v2)) then (yd_l - (1 : Int32)) else (ya_l (Int32.toNatClampNeg v2)))) pa sa ta tr ++ va_pl LP (tg tk tf th)) := hD
        refine lv_iinc (v := (v2 + (1 : Int32))) (lv' := [(2, .int (v2 + (1 : Int32))), (0, .ref L)]) hx hb dX0_becomeLong_49 hl (k := 1) rfl (by rfl) (by decide) rfl (fun ls hl => ?_)
        refine lv_goto (tgt := 20) hx hb dX0_becomeLong_52 (by decide) ?_
        exact ih_20 (v2 + (1 : Int32)) yd_l (upd ya_l (Int32.toNatClampNeg v2) (if (yd_l - (1 : Int32)) < (ya_l (Int32.toNatClampNeg v2)) then (yd_l - (1 : Int32)) else (ya_l (Int32.toNatClampNeg v2)))) _ _ _ (by have zl_0 : (1 : Int32).toInt = 1 := (by decide); have q_c25 := mt Int32.le_iff_toInt_le.mpr c25; have i_c25 := inc_nle c25; omega) (by have zl_0 : (1 : Int32).toInt = 1 := (by decide); have q_c25 := mt Int32.le_iff_toInt_le.mpr c25; have i_c25 := inc_nle c25; omega) (lv_sub hl [1, 0] rfl) hP hD hS hF
  refine lv_iload_n hx hb dX0_becomeLong_0 rfl (lv_at hl 1 rfl) ?_
  refine lv_iconst (v := (3 : Int32)) hx hb dX0_becomeLong_1 (by decide) ?_
  refine lv_icmp_lt (tgt := 11) hx hb dX0_becomeLong_2 (by decide) (fun c2 => ?_) (fun c2 => ?_)
  · rw [if_pos c2] at hF
    refine lv_iconst (v := (0 : Int32)) hx hb dX0_becomeLong_11 (by decide) ?_
    exact hret (0 : Int32) (yd, ya) _ _ _ _ ⟨hF.symm, (Or.inl rfl)⟩ (nb (Or.inl rfl)) hP hD hS dX0_becomeLong_12
  · rw [if_neg c2] at hF
    refine lv_iload_n hx hb dX0_becomeLong_5 rfl (lv_at hl 1 rfl) ?_
    refine lv_bipush (v := (12 : Int32)) hx hb dX0_becomeLong_6 (by decide) ?_
    refine lv_icmp_le (tgt := 13) hx hb dX0_becomeLong_8 (by decide) (fun c8 => ?_) (fun c8 => ?_)
    · rw [if_pos c8] at hF
      refine lv_aload_n hx hb dX0_becomeLong_13 rfl (lv_at hl 0 rfl) ?_
      refine lv_iload_n hx hb dX0_becomeLong_14 rfl (lv_at hl 1 rfl) ?_
      refine pf_X0_0 (v := .int v1) hx hb ht hown hK hP hD hS 0 rfl (ht _ wm_34) rfl rfl (Nat.le_of_ble_eq_true rfl) dX0_becomeLong_15 (fun H locs hP hD hS => ?_)
      have hP : va_P (dC, dI) vwCl (W_lane cI cT L Y P S T R v1 wd pc tc bl tm ya pa sa ta tr ++ va_pl LP (tg tk tf th)) H := hP
      have hD : va_D A (W_lane cI cT L Y P S T R v1 wd pc tc bl tm ya pa sa ta tr ++ va_pl LP (tg tk tf th)) := hD
      refine lv_iconst (v := (0 : Int32)) hx hb dX0_becomeLong_18 (by decide) ?_
      refine lv_istore_n (lv' := [(2, .int (0 : Int32)), (0, .ref L), (1, .int v1)]) hx hb dX0_becomeLong_19 rfl hl (by decide) rfl (fun ls hl => ?_)
      exact K_20 6 (0 : Int32) v1 ya _ _ _ (by have zl_0 : (0 : Int32).toInt = 0 := (by decide); have zl_1 : (12 : Int32).toInt = 12 := (by decide); have zl_2 : (3 : Int32).toInt = 3 := (by decide); have q_c2 := mt Int32.lt_iff_toInt_lt.mpr c2; have q_c8 := Int32.le_iff_toInt_le.mp c8; omega) (by have zl_0 : (0 : Int32).toInt = 0 := (by decide); have zl_1 : (12 : Int32).toInt = 12 := (by decide); have zl_2 : (3 : Int32).toInt = 3 := (by decide); have q_c2 := mt Int32.lt_iff_toInt_lt.mpr c2; have q_c8 := Int32.le_iff_toInt_le.mp c8; omega) (lv_sub hl [1, 0] rfl) hP hD hS hF
    · rw [if_neg c8] at hF
      refine lv_iconst (v := (0 : Int32)) hx hb dX0_becomeLong_11 (by decide) ?_
      exact hret (0 : Int32) (yd, ya) _ _ _ _ ⟨hF.symm, (Or.inl rfl)⟩ (nb (Or.inl rfl)) hP hD hS dX0_becomeLong_12
def f_X0_addPlayer (yd : Int32) (pc : Int32) (ya : Nat → Int32) (pa : Nat → Int32) (sa : Nat → Int32) (ta : Nat → Int32) (v1 : Int32) (v2 : Int32) (v3 : Int32) : Int32 × (Int32) × (Nat → Int32) × (Nat → Int32) × (Nat → Int32) × (Nat → Int32) := (if (5 : Int32) ≤ pc then ((0 : Int32), pc, ya, pa, sa, ta) else (lt1 (f_X0_hasYard yd v1) (fun r1 => (if r1 = (0 : Int32) then ((0 : Int32), pc, ya, pa, sa, ta) else (if v2 < (1 : Int32) then ((0 : Int32), pc, ya, pa, sa, ta) else (if v2 ≤ (3 : Int32) then ((1 : Int32), (pc + (1 : Int32)), (upd ya (Int32.toNatClampNeg pc) v1), (upd pa (Int32.toNatClampNeg pc) v2), (upd sa (Int32.toNatClampNeg pc) v3), (upd ta (Int32.toNatClampNeg pc) (0 : Int32))) else ((0 : Int32), pc, ya, pa, sa, ta)))))))
abbrev rm_X0_addPlayer : Room := { frames := 1, cells := 0, slots := 0, locals := 21 }
noncomputable abbrev wd_X0_addPlayer : List Cond := .code yX0_addPlayer cX0_addPlayer 4 (some .boolean) :: wsL_law
set_option maxHeartbeats 4000000 in
set_option maxRecDepth 100000 in
theorem c_X0_addPlayer (l : Launch) (dC : Nat → ClassId) (dI : Nat → Nat → Nat) (cI cT : ClassId) (L : Nat) (Y : Nat) (P : Nat) (S : Nat) (T : Nat) (R : Nat) (yd : Int32) (wd : Int32) (pc : Int32) (tc : Int32) (bl : Int32) (tm : Int32) (ya : Nat → Int32) (pa : Nat → Int32) (sa : Nat → Int32) (ta : Nat → Int32) (tr : Nat → Option Nat) (LP : List Nat) (tk tf th : Nat → Int32) (v1 : Int32) (v2 : Int32) (v3 : Int32) (hpc : 0 ≤ pc.toInt ∧ pc.toInt ≤ 5) : CtI l (dC, dI) cI cT yX0_addPlayer wd_X0_addPlayer rm_X0_addPlayer [.ref L, .int v1, .int v2, .int v3] (W_lane cI cT L Y P S T R yd wd pc tc bl tm ya pa sa ta tr ++ va_pl LP (tg tk tf th)) (fun (r : Int32) (u : (Int32) × (Nat → Int32) × (Nat → Int32) × (Nat → Int32) × (Nat → Int32)) => f_X0_addPlayer yd pc ya pa sa ta v1 v2 v3 = (r, u) ∧ (r = 0 ∨ r = 1)) (fun u => W_lane cI cT L Y P S T R yd wd u.1 tc bl tm u.2.1 u.2.2.1 u.2.2.2.1 u.2.2.2.2 tr ++ va_pl LP (tg tk tf th)) 0 0 := by
  refine ct_i (cc := cX0_addPlayer) (maxL := 4) (by decide) rfl (Nat.le_of_ble_eq_true rfl) ?_
  intro p e s m args below meth c A ls Q hx hb hml hts hown hmn hA hK hNS hP hD hS hl hret
  have ht : ∀ w ∈ wsL_law, w.before args s = true := fun w h => hts w (List.mem_cons_of_mem _ h)
  have hl : lv_has ls 4 [(0, .ref L), (1, .int v1), (2, .int v2), (3, .int v3)] := hl
  generalize hF : f_X0_addPlayer yd pc ya pa sa ta v1 v2 v3 = F at hret
  unfold f_X0_addPlayer at hF
  refine lv_aload_n hx hb dX0_addPlayer_0 rfl (lv_at hl 0 rfl) ?_
  refine gf_X0_2 (v := .int pc) hx hb ht hown hK hP 0 rfl (ht _ wm_36) rfl dX0_addPlayer_1 ?_
  refine lv_iconst (v := (5 : Int32)) hx hb dX0_addPlayer_4 (by decide) ?_
  refine lv_icmp_ge (tgt := 26) hx hb dX0_addPlayer_5 (by decide) (fun c5 => ?_) (fun c5 => ?_)
  · rw [if_pos c5] at hF
    refine lv_iconst (v := (0 : Int32)) hx hb dX0_addPlayer_26 (by decide) ?_
    exact hret (0 : Int32) (pc, ya, pa, sa, ta) _ _ _ _ ⟨hF.symm, (Or.inl rfl)⟩ (nb (Or.inl rfl)) hP hD hS dX0_addPlayer_27
  · rw [if_neg c5] at hF
    refine lv_aload_n hx hb dX0_addPlayer_8 rfl (lv_at hl 0 rfl) ?_
    refine lv_iload_n hx hb dX0_addPlayer_9 rfl (lv_at hl 1 rfl) ?_
    refine kcF_i (rx := fun (_ : Unit) => W_lane cI cT L Y P S T R yd wd pc tc bl tm ya pa sa ta tr) (pl1 := fun _ => va_pl LP (tg tk tf th)) (va_runV (As := [.int v1]) (rest := []) ⟨hx, hb, hml, hown, ht⟩ (c_X0_hasYard l dC dI cI cT L Y P S T R yd wd pc tc bl tm ya pa sa ta tr LP tk tf th v1 _) (cwV 1 ht (gV wm_230 wm_231 wm_232 wm_14 wm_233) rfl rfl rfl dv_X0_hasYard ⟨Nat.le_of_ble_eq_true rfl, Nat.le_of_ble_eq_true rfl⟩) (preV hK hNS hP hD (va_recv hK hP (ci := 0) (q0 := 0) rfl rfl)) rfl rfl hl.1 rfl (lv_room (Nat.le_of_ble_eq_true rfl)) dX0_addPlayer_10 ⟨Nat.le_of_ble_eq_true rfl, Nat.le_of_ble_eq_true rfl⟩) hP hD hS hA (fun r1 _ H locs e1 hP hD hS => ?_)
    obtain ⟨e1, ze1⟩ := e1
    rw [e1, lt1_def] at hF
    have hP : va_P (dC, dI) vwCl (W_lane cI cT L Y P S T R yd wd pc tc bl tm ya pa sa ta tr ++ va_pl LP (tg tk tf th)) H := hP
    have hD : va_D A (W_lane cI cT L Y P S T R yd wd pc tc bl tm ya pa sa ta tr ++ va_pl LP (tg tk tf th)) := hD
    refine lv_if_eq (tgt := 26) hx hb dX0_addPlayer_13 (by decide) (fun c13 => ?_) (fun c13 => ?_)
    · rw [if_pos c13] at hF
      refine lv_iconst (v := (0 : Int32)) hx hb dX0_addPlayer_26 (by decide) ?_
      exact hret (0 : Int32) (pc, ya, pa, sa, ta) _ _ _ _ ⟨hF.symm, (Or.inl rfl)⟩ (nb (Or.inl rfl)) hP hD hS dX0_addPlayer_27
    · rw [if_neg c13] at hF
      refine lv_iload_n hx hb dX0_addPlayer_16 rfl (lv_at hl 2 rfl) ?_
      refine lv_iconst (v := (1 : Int32)) hx hb dX0_addPlayer_17 (by decide) ?_
      refine lv_icmp_lt (tgt := 26) hx hb dX0_addPlayer_18 (by decide) (fun c18 => ?_) (fun c18 => ?_)
      · rw [if_pos c18] at hF
        refine lv_iconst (v := (0 : Int32)) hx hb dX0_addPlayer_26 (by decide) ?_
        exact hret (0 : Int32) (pc, ya, pa, sa, ta) _ _ _ _ ⟨hF.symm, (Or.inl rfl)⟩ (nb (Or.inl rfl)) hP hD hS dX0_addPlayer_27
      · rw [if_neg c18] at hF
        refine lv_iload_n hx hb dX0_addPlayer_21 rfl (lv_at hl 2 rfl) ?_
        refine lv_iconst (v := (3 : Int32)) hx hb dX0_addPlayer_22 (by decide) ?_
        refine lv_icmp_le (tgt := 28) hx hb dX0_addPlayer_23 (by decide) (fun c23 => ?_) (fun c23 => ?_)
        · rw [if_pos c23] at hF
          refine lv_aload_n hx hb dX0_addPlayer_28 rfl (lv_at hl 0 rfl) ?_
          refine gf_X0_6 (v := .ref Y) hx hb ht hown hK hP 0 rfl (ht _ wm_40) rfl dX0_addPlayer_29 ?_
          refine lv_aload_n hx hb dX0_addPlayer_32 rfl (lv_at hl 0 rfl) ?_
          refine gf_X0_2 (v := .int pc) hx hb ht hown hK hP 0 rfl (ht _ wm_36) rfl dX0_addPlayer_33 ?_
          refine lv_iload_n hx hb dX0_addPlayer_36 rfl (lv_at hl 1 rfl) ?_
          refine va_iast hx hb hK hP hD hS 1 0 rfl rfl (vp_of (by have zl_0 : (0 : Int32).toInt = 0 := (by decide); have zl_1 : (1 : Int32).toInt = 1 := (by decide); have zl_2 : (3 : Int32).toInt = 3 := (by decide); have zl_3 : (5 : Int32).toInt = 5 := (by decide); have q_c5 := mt Int32.le_iff_toInt_le.mpr c5; have i_c5 := inc_nle c5; have q_c13 : ¬ Int32.toInt r1 = Int32.toInt (0 : Int32) := fun h => c13 (Int32.toInt_inj.mp h); have q_c18 := mt Int32.lt_iff_toInt_lt.mpr c18; have q_c23 := Int32.le_iff_toInt_le.mp c23; omega)) dX0_addPlayer_37 (fun H locs hP hD hS => ?_)
          have hP : va_P (dC, dI) vwCl (W_lane cI cT L Y P S T R yd wd pc tc bl tm (upd ya (Int32.toNatClampNeg pc) v1) pa sa ta tr ++ va_pl LP (tg tk tf th)) H := hP
          have hD : va_D A (W_lane cI cT L Y P S T R yd wd pc tc bl tm (upd ya (Int32.toNatClampNeg pc) v1) pa sa ta tr ++ va_pl LP (tg tk tf th)) := hD
          refine lv_aload_n hx hb dX0_addPlayer_38 rfl (lv_at hl 0 rfl) ?_
          refine gf_X0_7 (v := .ref P) hx hb ht hown hK hP 0 rfl (ht _ wm_41) rfl dX0_addPlayer_39 ?_
          refine lv_aload_n hx hb dX0_addPlayer_42 rfl (lv_at hl 0 rfl) ?_
          refine gf_X0_2 (v := .int pc) hx hb ht hown hK hP 0 rfl (ht _ wm_36) rfl dX0_addPlayer_43 ?_
          refine lv_iload_n hx hb dX0_addPlayer_46 rfl (lv_at hl 2 rfl) ?_
          refine va_iast hx hb hK hP hD hS 2 0 rfl rfl (vp_of (by have zl_0 : (0 : Int32).toInt = 0 := (by decide); have zl_1 : (1 : Int32).toInt = 1 := (by decide); have zl_2 : (3 : Int32).toInt = 3 := (by decide); have zl_3 : (5 : Int32).toInt = 5 := (by decide); have q_c5 := mt Int32.le_iff_toInt_le.mpr c5; have i_c5 := inc_nle c5; have q_c13 : ¬ Int32.toInt r1 = Int32.toInt (0 : Int32) := fun h => c13 (Int32.toInt_inj.mp h); have q_c18 := mt Int32.lt_iff_toInt_lt.mpr c18; have q_c23 := Int32.le_iff_toInt_le.mp c23; omega)) dX0_addPlayer_47 (fun H locs hP hD hS => ?_)
          have hP : va_P (dC, dI) vwCl (W_lane cI cT L Y P S T R yd wd pc tc bl tm (upd ya (Int32.toNatClampNeg pc) v1) (upd pa (Int32.toNatClampNeg pc) v2) sa ta tr ++ va_pl LP (tg tk tf th)) H := hP
          have hD : va_D A (W_lane cI cT L Y P S T R yd wd pc tc bl tm (upd ya (Int32.toNatClampNeg pc) v1) (upd pa (Int32.toNatClampNeg pc) v2) sa ta tr ++ va_pl LP (tg tk tf th)) := hD
          refine lv_aload_n hx hb dX0_addPlayer_48 rfl (lv_at hl 0 rfl) ?_
          refine gf_X0_8 (v := .ref S) hx hb ht hown hK hP 0 rfl (ht _ wm_42) rfl dX0_addPlayer_49 ?_
          refine lv_aload_n hx hb dX0_addPlayer_52 rfl (lv_at hl 0 rfl) ?_
          refine gf_X0_2 (v := .int pc) hx hb ht hown hK hP 0 rfl (ht _ wm_36) rfl dX0_addPlayer_53 ?_
          refine lv_iload_n hx hb dX0_addPlayer_56 rfl (lv_at hl 3 rfl) ?_
          refine va_iast hx hb hK hP hD hS 3 0 rfl rfl (vp_of (by have zl_0 : (0 : Int32).toInt = 0 := (by decide); have zl_1 : (1 : Int32).toInt = 1 := (by decide); have zl_2 : (3 : Int32).toInt = 3 := (by decide); have zl_3 : (5 : Int32).toInt = 5 := (by decide); have q_c5 := mt Int32.le_iff_toInt_le.mpr c5; have i_c5 := inc_nle c5; have q_c13 : ¬ Int32.toInt r1 = Int32.toInt (0 : Int32) := fun h => c13 (Int32.toInt_inj.mp h); have q_c18 := mt Int32.lt_iff_toInt_lt.mpr c18; have q_c23 := Int32.le_iff_toInt_le.mp c23; omega)) dX0_addPlayer_57 (fun H locs hP hD hS => ?_)
          have hP : va_P (dC, dI) vwCl (W_lane cI cT L Y P S T R yd wd pc tc bl tm (upd ya (Int32.toNatClampNeg pc) v1) (upd pa (Int32.toNatClampNeg pc) v2) (upd sa (Int32.toNatClampNeg pc) v3) ta tr ++ va_pl LP (tg tk tf th)) H := hP
          have hD : va_D A (W_lane cI cT L Y P S T R yd wd pc tc bl tm (upd ya (Int32.toNatClampNeg pc) v1) (upd pa (Int32.toNatClampNeg pc) v2) (upd sa (Int32.toNatClampNeg pc) v3) ta tr ++ va_pl LP (tg tk tf th)) := hD
          refine lv_aload_n hx hb dX0_addPlayer_58 rfl (lv_at hl 0 rfl) ?_
          refine gf_X0_9 (v := .ref T) hx hb ht hown hK hP 0 rfl (ht _ wm_43) rfl dX0_addPlayer_59 ?_
          refine lv_aload_n hx hb dX0_addPlayer_62 rfl (lv_at hl 0 rfl) ?_
          refine gf_X0_2 (v := .int pc) hx hb ht hown hK hP 0 rfl (ht _ wm_36) rfl dX0_addPlayer_63 ?_
          refine lv_iconst (v := (0 : Int32)) hx hb dX0_addPlayer_66 (by decide) ?_
          refine va_iast hx hb hK hP hD hS 4 0 rfl rfl (vp_of (by have zl_0 : (0 : Int32).toInt = 0 := (by decide); have zl_1 : (1 : Int32).toInt = 1 := (by decide); have zl_2 : (3 : Int32).toInt = 3 := (by decide); have zl_3 : (5 : Int32).toInt = 5 := (by decide); have q_c5 := mt Int32.le_iff_toInt_le.mpr c5; have i_c5 := inc_nle c5; have q_c13 : ¬ Int32.toInt r1 = Int32.toInt (0 : Int32) := fun h => c13 (Int32.toInt_inj.mp h); have q_c18 := mt Int32.lt_iff_toInt_lt.mpr c18; have q_c23 := Int32.le_iff_toInt_le.mp c23; omega)) dX0_addPlayer_67 (fun H locs hP hD hS => ?_)
          have hP : va_P (dC, dI) vwCl (W_lane cI cT L Y P S T R yd wd pc tc bl tm (upd ya (Int32.toNatClampNeg pc) v1) (upd pa (Int32.toNatClampNeg pc) v2) (upd sa (Int32.toNatClampNeg pc) v3) (upd ta (Int32.toNatClampNeg pc) (0 : Int32)) tr ++ va_pl LP (tg tk tf th)) H := hP
          have hD : va_D A (W_lane cI cT L Y P S T R yd wd pc tc bl tm (upd ya (Int32.toNatClampNeg pc) v1) (upd pa (Int32.toNatClampNeg pc) v2) (upd sa (Int32.toNatClampNeg pc) v3) (upd ta (Int32.toNatClampNeg pc) (0 : Int32)) tr ++ va_pl LP (tg tk tf th)) := hD
          refine lv_aload_n hx hb dX0_addPlayer_68 rfl (lv_at hl 0 rfl) ?_
          refine lv_dup hx hb dX0_addPlayer_69 rfl ?_
          refine gf_X0_2 (v := .int pc) hx hb ht hown hK hP 0 rfl (ht _ wm_36) rfl dX0_addPlayer_70 ?_
          refine lv_iconst (v := (1 : Int32)) hx hb dX0_addPlayer_73 (by decide) ?_
          refine lv_iadd hx hb dX0_addPlayer_74 ?_
          refine pf_X0_2 (v := .int (pc + (1 : Int32))) hx hb ht hown hK hP hD hS 0 rfl (ht _ wm_36) rfl rfl (Nat.le_of_ble_eq_true rfl) dX0_addPlayer_75 (fun H locs hP hD hS => ?_)
          have hP : va_P (dC, dI) vwCl (W_lane cI cT L Y P S T R yd wd (pc + (1 : Int32)) tc bl tm (upd ya (Int32.toNatClampNeg pc) v1) (upd pa (Int32.toNatClampNeg pc) v2) (upd sa (Int32.toNatClampNeg pc) v3) (upd ta (Int32.toNatClampNeg pc) (0 : Int32)) tr ++ va_pl LP (tg tk tf th)) H := hP
          have hD : va_D A (W_lane cI cT L Y P S T R yd wd (pc + (1 : Int32)) tc bl tm (upd ya (Int32.toNatClampNeg pc) v1) (upd pa (Int32.toNatClampNeg pc) v2) (upd sa (Int32.toNatClampNeg pc) v3) (upd ta (Int32.toNatClampNeg pc) (0 : Int32)) tr ++ va_pl LP (tg tk tf th)) := hD
          refine lv_iconst (v := (1 : Int32)) hx hb dX0_addPlayer_78 (by decide) ?_
          exact hret (1 : Int32) ((pc + (1 : Int32)), (upd ya (Int32.toNatClampNeg pc) v1), (upd pa (Int32.toNatClampNeg pc) v2), (upd sa (Int32.toNatClampNeg pc) v3), (upd ta (Int32.toNatClampNeg pc) (0 : Int32))) _ _ _ _ ⟨hF.symm, (Or.inr rfl)⟩ (nb (Or.inr rfl)) hP hD hS dX0_addPlayer_79
        · rw [if_neg c23] at hF
          refine lv_iconst (v := (0 : Int32)) hx hb dX0_addPlayer_26 (by decide) ?_
          exact hret (0 : Int32) (pc, ya, pa, sa, ta) _ _ _ _ ⟨hF.symm, (Or.inl rfl)⟩ (nb (Or.inl rfl)) hP hD hS dX0_addPlayer_27
def f_X0_errorOf (sa : Nat → Int32) (ta : Nat → Int32) (tr : Nat → Option Nat) (tk : Nat → Int32) (tf : Nat → Int32) (th : Nat → Int32) (v1 : Int32) (v2 : Int32) (v3 : Int32) : Int32 := (if v2 = v3 then (lt1 (f_X3_errorBy tk tf th (tA tr (Int32.toNatClampNeg v1)) (sa (Int32.toNatClampNeg v2)) (ta (Int32.toNatClampNeg v2)) (1 : Int32)) (fun r4 => r4)) else (lt1 (f_X3_errorBy tk tf th (tA tr (Int32.toNatClampNeg v1)) (sa (Int32.toNatClampNeg v2)) (ta (Int32.toNatClampNeg v2)) (0 : Int32)) (fun r1 => r1)))
abbrev rm_X0_errorOf : Room := { frames := 1, cells := 0, slots := 0, locals := 25 }
noncomputable abbrev wd_X0_errorOf : List Cond := .code yX0_errorOf cX0_errorOf 4 (some .int) :: wsL_law
set_option maxHeartbeats 4000000 in
set_option maxRecDepth 100000 in
theorem c_X0_errorOf (l : Launch) (dC : Nat → ClassId) (dI : Nat → Nat → Nat) (cI cT : ClassId) (L : Nat) (Y : Nat) (P : Nat) (S : Nat) (T : Nat) (R : Nat) (yd : Int32) (wd : Int32) (pc : Int32) (tc : Int32) (bl : Int32) (tm : Int32) (ya : Nat → Int32) (pa : Nat → Int32) (sa : Nat → Int32) (ta : Nat → Int32) (tr : Nat → Option Nat) (LP : List Nat) (tk tf th : Nat → Int32) (v1 : Int32) (v2 : Int32) (v3 : Int32) (h_v1 : vp_in v1 6) (h_v2 : vp_in v2 5) (hT : ∀ i, i < 6 → tr i = some (tA tr i) ∧ tA tr i ∈ LP) : CtI l (dC, dI) cI cT yX0_errorOf wd_X0_errorOf rm_X0_errorOf [.ref L, .int v1, .int v2, .int v3] (W_lane cI cT L Y P S T R yd wd pc tc bl tm ya pa sa ta tr ++ va_pl LP (tg tk tf th)) (fun (r : Int32) (_ : Unit) => f_X0_errorOf sa ta tr tk tf th v1 v2 v3 = r) (fun _ => W_lane cI cT L Y P S T R yd wd pc tc bl tm ya pa sa ta tr ++ va_pl LP (tg tk tf th)) 0 0 := by
  refine ct_i (cc := cX0_errorOf) (maxL := 4) (by decide) rfl (Nat.le_of_ble_eq_true rfl) ?_
  intro p e s m args below meth c A ls Q hx hb hml hts hown hmn hA hK hNS hP hD hS hl hret
  have ht : ∀ w ∈ wsL_law, w.before args s = true := fun w h => hts w (List.mem_cons_of_mem _ h)
  have hl : lv_has ls 4 [(0, .ref L), (1, .int v1), (2, .int v2), (3, .int v3)] := hl
  generalize hF : f_X0_errorOf sa ta tr tk tf th v1 v2 v3 = F at hret
  unfold f_X0_errorOf at hF
  refine lv_aload_n hx hb dX0_errorOf_0 rfl (lv_at hl 0 rfl) ?_
  refine gf_X0_10 (v := .ref R) hx hb ht hown hK hP 0 rfl (ht _ wm_45) rfl dX0_errorOf_1 ?_
  refine lv_iload_n hx hb dX0_errorOf_4 rfl (lv_at hl 1 rfl) ?_
  have hi5 : vp_in v1 6 := (vp_of (by have p_h_v1 := vp_to h_v1; have p_h_v2 := vp_to h_v2; omega))
  refine va_aldT hx hb hK hP 5 1 rfl rfl hi5 (hT _ (vp_lt hi5)).1 dX0_errorOf_5 ?_
  refine lv_aload_n hx hb dX0_errorOf_6 rfl (lv_at hl 0 rfl) ?_
  refine gf_X0_8 (v := .ref S) hx hb ht hown hK hP 0 rfl (ht _ wm_42) rfl dX0_errorOf_7 ?_
  refine lv_iload_n hx hb dX0_errorOf_10 rfl (lv_at hl 2 rfl) ?_
  refine va_iald hx hb hK hP 3 0 rfl rfl (vp_of (by have p_h_v1 := vp_to h_v1; have p_h_v2 := vp_to h_v2; omega)) dX0_errorOf_11 ?_
  refine lv_aload_n hx hb dX0_errorOf_12 rfl (lv_at hl 0 rfl) ?_
  refine gf_X0_9 (v := .ref T) hx hb ht hown hK hP 0 rfl (ht _ wm_43) rfl dX0_errorOf_13 ?_
  refine lv_iload_n hx hb dX0_errorOf_16 rfl (lv_at hl 2 rfl) ?_
  refine va_iald hx hb hK hP 4 0 rfl rfl (vp_of (by have p_h_v1 := vp_to h_v1; have p_h_v2 := vp_to h_v2; omega)) dX0_errorOf_17 ?_
  refine lv_iload_n hx hb dX0_errorOf_18 rfl (lv_at hl 2 rfl) ?_
  refine lv_iload_n hx hb dX0_errorOf_19 rfl (lv_at hl 3 rfl) ?_
  refine lv_icmp_ne (tgt := 27) hx hb dX0_errorOf_20 (by decide) (fun c20 => ?_) (fun c20 => ?_)
  · rw [if_neg c20] at hF
    refine lv_iconst (v := (0 : Int32)) hx hb dX0_errorOf_27 (by decide) ?_
    obtain ⟨kp2, hk3⟩ := va_pl_get (X := W_lane cI cT L Y P S T R yd wd pc tc bl tm ya pa sa ta tr) (f := tg tk tf th) (hT _ (vp_lt hi5)).2
    refine kc0_i (rx := fun (_ : Unit) => ([] : va_W)) (pl1 := fun _ => va_pl LP (tg tk tf th)) (wr := [(L, .inr (0, [.int yd, .int wd, .int pc, .int tc, .int bl, .int tm, .ref Y, .ref P, .ref S, .ref T, .ref R])), (Y, .inl (cI, 5, .inl ya)), (P, .inl (cI, 5, .inl pa)), (S, .inl (cI, 5, .inl sa)), (T, .inl (cI, 5, .inl ta)), (R, .inl (cT, 6, .inr (.inr (.inr (.inr tr)))))]) (fun (_ : Unit) => W_lane cI cT L Y P S T R yd wd pc tc bl tm ya pa sa ta tr) (va_runVN (As := [.int (sa (Int32.toNatClampNeg v2)), .int (ta (Int32.toNatClampNeg v2)), .int (0 : Int32)]) (rest := []) ⟨hx, hb, hml, hown, ht⟩ (c_X3_errorBy l dC dI cI cT LP tk tf th (tA tr (Int32.toNatClampNeg v1)) (sa (Int32.toNatClampNeg v2)) (ta (Int32.toNatClampNeg v2)) (0 : Int32) ((hT _ (vp_lt hi5)).2) _) ⟨va_cnB 3 ht (gW wm_417) rfl rfl rfl (hNS _ (List.mem_of_getElem? (i := 37) rfl)) (ht _ wm_47) dv_X3_errorBy.2 ⟨Nat.le_of_ble_eq_true rfl, Nat.le_of_ble_eq_true rfl⟩, ht _ wm_415, ht _ wm_416⟩ (preV hK hNS (hP.part [] rfl) (hD.part [] (by decide) rfl) (va_recv hK hP (ci := 3) (q0 := kp2) rfl hk3)) rfl rfl hl.1 rfl (lv_room (Nat.le_of_ble_eq_true rfl)) dX0_errorOf_28 ⟨Nat.le_of_ble_eq_true rfl, Nat.le_of_ble_eq_true rfl⟩) hP hD hS hA [] [0, 1, 2, 3, 4, 5] [0, 1, 2, 3, 4, 5] rfl rfl (by decide) (by decide) (by decide) (fun _ => rfl) (fun r1 _ H locs e1 hP hD hS => ?_)
    rw [e1, lt1_def] at hF
    have hP : va_P (dC, dI) vwCl (W_lane cI cT L Y P S T R yd wd pc tc bl tm ya pa sa ta tr ++ va_pl LP (tg tk tf th)) H := hP
    have hD : va_D A (W_lane cI cT L Y P S T R yd wd pc tc bl tm ya pa sa ta tr ++ va_pl LP (tg tk tf th)) := hD
    exact hret r1 () _ _ _ _ hF.symm rfl hP hD hS dX0_errorOf_31
  · rw [if_pos c20] at hF
    refine lv_iconst (v := (1 : Int32)) hx hb dX0_errorOf_23 (by decide) ?_
    refine lv_goto (tgt := 28) hx hb dX0_errorOf_24 (by decide) ?_
    obtain ⟨kp5, hk6⟩ := va_pl_get (X := W_lane cI cT L Y P S T R yd wd pc tc bl tm ya pa sa ta tr) (f := tg tk tf th) (hT _ (vp_lt hi5)).2
    refine kc0_i (rx := fun (_ : Unit) => ([] : va_W)) (pl1 := fun _ => va_pl LP (tg tk tf th)) (wr := [(L, .inr (0, [.int yd, .int wd, .int pc, .int tc, .int bl, .int tm, .ref Y, .ref P, .ref S, .ref T, .ref R])), (Y, .inl (cI, 5, .inl ya)), (P, .inl (cI, 5, .inl pa)), (S, .inl (cI, 5, .inl sa)), (T, .inl (cI, 5, .inl ta)), (R, .inl (cT, 6, .inr (.inr (.inr (.inr tr)))))]) (fun (_ : Unit) => W_lane cI cT L Y P S T R yd wd pc tc bl tm ya pa sa ta tr) (va_runVN (As := [.int (sa (Int32.toNatClampNeg v2)), .int (ta (Int32.toNatClampNeg v2)), .int (1 : Int32)]) (rest := []) ⟨hx, hb, hml, hown, ht⟩ (c_X3_errorBy l dC dI cI cT LP tk tf th (tA tr (Int32.toNatClampNeg v1)) (sa (Int32.toNatClampNeg v2)) (ta (Int32.toNatClampNeg v2)) (1 : Int32) ((hT _ (vp_lt hi5)).2) _) ⟨va_cnB 3 ht (gW wm_417) rfl rfl rfl (hNS _ (List.mem_of_getElem? (i := 37) rfl)) (ht _ wm_47) dv_X3_errorBy.2 ⟨Nat.le_of_ble_eq_true rfl, Nat.le_of_ble_eq_true rfl⟩, ht _ wm_415, ht _ wm_416⟩ (preV hK hNS (hP.part [] rfl) (hD.part [] (by decide) rfl) (va_recv hK hP (ci := 3) (q0 := kp5) rfl hk6)) rfl rfl hl.1 rfl (lv_room (Nat.le_of_ble_eq_true rfl)) dX0_errorOf_28 ⟨Nat.le_of_ble_eq_true rfl, Nat.le_of_ble_eq_true rfl⟩) hP hD hS hA [] [0, 1, 2, 3, 4, 5] [0, 1, 2, 3, 4, 5] rfl rfl (by decide) (by decide) (by decide) (fun _ => rfl) (fun r4 _ H locs e4 hP hD hS => ?_)
    rw [e4, lt1_def] at hF
    have hP : va_P (dC, dI) vwCl (W_lane cI cT L Y P S T R yd wd pc tc bl tm ya pa sa ta tr ++ va_pl LP (tg tk tf th)) H := hP
    have hD : va_D A (W_lane cI cT L Y P S T R yd wd pc tc bl tm ya pa sa ta tr ++ va_pl LP (tg tk tf th)) := hD
    exact hret r4 () _ _ _ _ hF.symm rfl hP hD hS dX0_errorOf_31
def f_X0_ways (sa : Nat → Int32) (ta : Nat → Int32) (tr : Nat → Option Nat) (tk : Nat → Int32) (tf : Nat → Int32) (th : Nat → Int32) (v1 : Int32) (v2 : Int32) (v3 : Int32) : Int32 := (lt1 (f_X0_errorOf sa ta tr tk tf th v1 v2 v3) (fun r1 => (((2 : Int32) * r1) + (1 : Int32))))
abbrev rm_X0_ways : Room := { frames := 2, cells := 0, slots := 0, locals := 48 }
noncomputable abbrev wd_X0_ways : List Cond := .code yX0_ways cX0_ways 4 (some .int) :: wsL_law
set_option maxHeartbeats 4000000 in
set_option maxRecDepth 100000 in
theorem c_X0_ways (l : Launch) (dC : Nat → ClassId) (dI : Nat → Nat → Nat) (cI cT : ClassId) (L : Nat) (Y : Nat) (P : Nat) (S : Nat) (T : Nat) (R : Nat) (yd : Int32) (wd : Int32) (pc : Int32) (tc : Int32) (bl : Int32) (tm : Int32) (ya : Nat → Int32) (pa : Nat → Int32) (sa : Nat → Int32) (ta : Nat → Int32) (tr : Nat → Option Nat) (LP : List Nat) (tk tf th : Nat → Int32) (v1 : Int32) (v2 : Int32) (v3 : Int32) (h_v1 : vp_in v1 6) (h_v2 : vp_in v2 5) (hT : ∀ i, i < 6 → tr i = some (tA tr i) ∧ tA tr i ∈ LP) : CtI l (dC, dI) cI cT yX0_ways wd_X0_ways rm_X0_ways [.ref L, .int v1, .int v2, .int v3] (W_lane cI cT L Y P S T R yd wd pc tc bl tm ya pa sa ta tr ++ va_pl LP (tg tk tf th)) (fun (r : Int32) (_ : Unit) => f_X0_ways sa ta tr tk tf th v1 v2 v3 = r) (fun _ => W_lane cI cT L Y P S T R yd wd pc tc bl tm ya pa sa ta tr ++ va_pl LP (tg tk tf th)) 0 0 := by
  refine ct_i (cc := cX0_ways) (maxL := 4) (by decide) rfl (Nat.le_of_ble_eq_true rfl) ?_
  intro p e s m args below meth c A ls Q hx hb hml hts hown hmn hA hK hNS hP hD hS hl hret
  have ht : ∀ w ∈ wsL_law, w.before args s = true := fun w h => hts w (List.mem_cons_of_mem _ h)
  have hl : lv_has ls 4 [(0, .ref L), (1, .int v1), (2, .int v2), (3, .int v3)] := hl
  generalize hF : f_X0_ways sa ta tr tk tf th v1 v2 v3 = F at hret
  unfold f_X0_ways at hF
  refine lv_iconst (v := (2 : Int32)) hx hb dX0_ways_0 (by decide) ?_
  refine lv_aload_n hx hb dX0_ways_1 rfl (lv_at hl 0 rfl) ?_
  refine lv_iload_n hx hb dX0_ways_2 rfl (lv_at hl 1 rfl) ?_
  refine lv_iload_n hx hb dX0_ways_3 rfl (lv_at hl 2 rfl) ?_
  refine lv_iload_n hx hb dX0_ways_4 rfl (lv_at hl 3 rfl) ?_
  refine kcF_i (rx := fun (_ : Unit) => W_lane cI cT L Y P S T R yd wd pc tc bl tm ya pa sa ta tr) (pl1 := fun _ => va_pl LP (tg tk tf th)) (va_runV (As := [.int v1, .int v2, .int v3]) (rest := [.int (2 : Int32)]) ⟨hx, hb, hml, hown, ht⟩ (c_X0_errorOf l dC dI cI cT L Y P S T R yd wd pc tc bl tm ya pa sa ta tr LP tk tf th v1 v2 v3 (vp_of (by have p_h_v1 := vp_to h_v1; have p_h_v2 := vp_to h_v2; omega)) (vp_of (by have p_h_v1 := vp_to h_v1; have p_h_v2 := vp_to h_v2; omega)) hT _) (cwV 3 ht (gV wm_478 wm_412 wm_413 wm_14 wm_414) rfl rfl rfl dv_X0_errorOf ⟨Nat.le_of_ble_eq_true rfl, Nat.le_of_ble_eq_true rfl⟩) (preV hK hNS hP hD (va_recv hK hP (ci := 0) (q0 := 0) rfl rfl)) rfl rfl hl.1 rfl (lv_room (Nat.le_of_ble_eq_true rfl)) dX0_ways_5 ⟨Nat.le_of_ble_eq_true rfl, Nat.le_of_ble_eq_true rfl⟩) hP hD hS hA (fun r1 _ H locs e1 hP hD hS => ?_)
  rw [e1, lt1_def] at hF
  have hP : va_P (dC, dI) vwCl (W_lane cI cT L Y P S T R yd wd pc tc bl tm ya pa sa ta tr ++ va_pl LP (tg tk tf th)) H := hP
  have hD : va_D A (W_lane cI cT L Y P S T R yd wd pc tc bl tm ya pa sa ta tr ++ va_pl LP (tg tk tf th)) := hD
  refine lv_imul hx hb dX0_ways_8 ?_
  refine lv_iconst (v := (1 : Int32)) hx hb dX0_ways_9 (by decide) ?_
  refine lv_iadd hx hb dX0_ways_10 ?_
  exact hret (((2 : Int32) * r1) + (1 : Int32)) () _ _ _ _ hF.symm rfl hP hD hS dX0_ways_11
def f_X0_waysHad (yd : Int32) (wd : Int32) (ya : Nat → Int32) (pa : Nat → Int32) (sa : Nat → Int32) (ta : Nat → Int32) (tr : Nat → Option Nat) (tk : Nat → Int32) (tf : Nat → Int32) (th : Nat → Int32) (v1 : Int32) (v2 : Int32) (v3 : Int32) : Int32 := (lt1 (f_X0_errorOf sa ta tr tk tf th v1 v2 v3) (fun r1 => (lt1 (f_X3_drift tk tf th (tA tr (Int32.toNatClampNeg v1)) wd) (fun r2 => (lt1 (f_X3_air tk th (tA tr (Int32.toNatClampNeg v1))) (fun r5 => (if (0 : Int32) < (((if (if ((yd - (1 : Int32)) - (ya (Int32.toNatClampNeg v3))) < ((pa (Int32.toNatClampNeg v3)) * r5) then ((yd - (1 : Int32)) - (ya (Int32.toNatClampNeg v3))) else ((pa (Int32.toNatClampNeg v3)) * r5)) < (r2 + r1) then (if ((yd - (1 : Int32)) - (ya (Int32.toNatClampNeg v3))) < ((pa (Int32.toNatClampNeg v3)) * r5) then ((yd - (1 : Int32)) - (ya (Int32.toNatClampNeg v3))) else ((pa (Int32.toNatClampNeg v3)) * r5)) else (r2 + r1)) - (if (r2 - r1) < (if (-((pa (Int32.toNatClampNeg v3)) * r5)) < (-(ya (Int32.toNatClampNeg v3))) then (-(ya (Int32.toNatClampNeg v3))) else (-((pa (Int32.toNatClampNeg v3)) * r5))) then (if (-((pa (Int32.toNatClampNeg v3)) * r5)) < (-(ya (Int32.toNatClampNeg v3))) then (-(ya (Int32.toNatClampNeg v3))) else (-((pa (Int32.toNatClampNeg v3)) * r5))) else (r2 - r1))) + (1 : Int32)) then (((if (if ((yd - (1 : Int32)) - (ya (Int32.toNatClampNeg v3))) < ((pa (Int32.toNatClampNeg v3)) * r5) then ((yd - (1 : Int32)) - (ya (Int32.toNatClampNeg v3))) else ((pa (Int32.toNatClampNeg v3)) * r5)) < (r2 + r1) then (if ((yd - (1 : Int32)) - (ya (Int32.toNatClampNeg v3))) < ((pa (Int32.toNatClampNeg v3)) * r5) then ((yd - (1 : Int32)) - (ya (Int32.toNatClampNeg v3))) else ((pa (Int32.toNatClampNeg v3)) * r5)) else (r2 + r1)) - (if (r2 - r1) < (if (-((pa (Int32.toNatClampNeg v3)) * r5)) < (-(ya (Int32.toNatClampNeg v3))) then (-(ya (Int32.toNatClampNeg v3))) else (-((pa (Int32.toNatClampNeg v3)) * r5))) then (if (-((pa (Int32.toNatClampNeg v3)) * r5)) < (-(ya (Int32.toNatClampNeg v3))) then (-(ya (Int32.toNatClampNeg v3))) else (-((pa (Int32.toNatClampNeg v3)) * r5))) else (r2 - r1))) + (1 : Int32)) else (0 : Int32))))))))
abbrev rm_X0_waysHad : Room := { frames := 2, cells := 0, slots := 0, locals := 48 }
noncomputable abbrev wd_X0_waysHad : List Cond := .code yX0_waysHad cX0_waysHad 9 (some .int) :: wsL_law
set_option maxHeartbeats 4000000 in
set_option maxRecDepth 100000 in
theorem c_X0_waysHad (l : Launch) (dC : Nat → ClassId) (dI : Nat → Nat → Nat) (cI cT : ClassId) (L : Nat) (Y : Nat) (P : Nat) (S : Nat) (T : Nat) (R : Nat) (yd : Int32) (wd : Int32) (pc : Int32) (tc : Int32) (bl : Int32) (tm : Int32) (ya : Nat → Int32) (pa : Nat → Int32) (sa : Nat → Int32) (ta : Nat → Int32) (tr : Nat → Option Nat) (LP : List Nat) (tk tf th : Nat → Int32) (v1 : Int32) (v2 : Int32) (v3 : Int32) (h_v1 : vp_in v1 6) (h_v2 : vp_in v2 5) (h_v3 : vp_in v3 5) (hT : ∀ i, i < 6 → tr i = some (tA tr i) ∧ tA tr i ∈ LP) : CtI l (dC, dI) cI cT yX0_waysHad wd_X0_waysHad rm_X0_waysHad [.ref L, .int v1, .int v2, .int v3] (W_lane cI cT L Y P S T R yd wd pc tc bl tm ya pa sa ta tr ++ va_pl LP (tg tk tf th)) (fun (r : Int32) (_ : Unit) => f_X0_waysHad yd wd ya pa sa ta tr tk tf th v1 v2 v3 = r) (fun _ => W_lane cI cT L Y P S T R yd wd pc tc bl tm ya pa sa ta tr ++ va_pl LP (tg tk tf th)) 0 0 := by
  refine ct_i (cc := cX0_waysHad) (maxL := 9) (by decide) rfl (Nat.le_of_ble_eq_true rfl) ?_
  intro p e s m args below meth c A ls Q hx hb hml hts hown hmn hA hK hNS hP hD hS hl hret
  have ht : ∀ w ∈ wsL_law, w.before args s = true := fun w h => hts w (List.mem_cons_of_mem _ h)
  have hl : lv_has ls 9 [(0, .ref L), (1, .int v1), (2, .int v2), (3, .int v3)] := hl
  generalize hF : f_X0_waysHad yd wd ya pa sa ta tr tk tf th v1 v2 v3 = F at hret
  unfold f_X0_waysHad at hF
  refine lv_aload_n hx hb dX0_waysHad_0 rfl (lv_at hl 0 rfl) ?_
  refine lv_iload_n hx hb dX0_waysHad_1 rfl (lv_at hl 1 rfl) ?_
  refine lv_iload_n hx hb dX0_waysHad_2 rfl (lv_at hl 2 rfl) ?_
  refine lv_iload_n hx hb dX0_waysHad_3 rfl (lv_at hl 3 rfl) ?_
  refine kcF_i (rx := fun (_ : Unit) => W_lane cI cT L Y P S T R yd wd pc tc bl tm ya pa sa ta tr) (pl1 := fun _ => va_pl LP (tg tk tf th)) (va_runV (As := [.int v1, .int v2, .int v3]) (rest := []) ⟨hx, hb, hml, hown, ht⟩ (c_X0_errorOf l dC dI cI cT L Y P S T R yd wd pc tc bl tm ya pa sa ta tr LP tk tf th v1 v2 v3 (vp_of (by have p_h_v1 := vp_to h_v1; have p_h_v2 := vp_to h_v2; have p_h_v3 := vp_to h_v3; omega)) (vp_of (by have p_h_v1 := vp_to h_v1; have p_h_v2 := vp_to h_v2; have p_h_v3 := vp_to h_v3; omega)) hT _) (cwV 3 ht (gV wm_478 wm_412 wm_413 wm_14 wm_414) rfl rfl rfl dv_X0_errorOf ⟨Nat.le_of_ble_eq_true rfl, Nat.le_of_ble_eq_true rfl⟩) (preV hK hNS hP hD (va_recv hK hP (ci := 0) (q0 := 0) rfl rfl)) rfl rfl hl.1 rfl (lv_room (Nat.le_of_ble_eq_true rfl)) dX0_waysHad_4 ⟨Nat.le_of_ble_eq_true rfl, Nat.le_of_ble_eq_true rfl⟩) hP hD hS hA (fun r1 _ H locs e1 hP hD hS => ?_)
  rw [e1, lt1_def] at hF
  have hP : va_P (dC, dI) vwCl (W_lane cI cT L Y P S T R yd wd pc tc bl tm ya pa sa ta tr ++ va_pl LP (tg tk tf th)) H := hP
  have hD : va_D A (W_lane cI cT L Y P S T R yd wd pc tc bl tm ya pa sa ta tr ++ va_pl LP (tg tk tf th)) := hD
  refine lv_istore (lv' := [(4, .int r1), (0, .ref L), (1, .int v1), (2, .int v2), (3, .int v3)]) hx hb dX0_waysHad_7 hl (by decide) rfl (fun ls hl => ?_)
  refine lv_aload_n hx hb dX0_waysHad_9 rfl (lv_at hl 1 rfl) ?_
  refine gf_X0_10 (v := .ref R) hx hb ht hown hK hP 0 rfl (ht _ wm_45) rfl dX0_waysHad_10 ?_
  refine lv_iload_n hx hb dX0_waysHad_13 rfl (lv_at hl 2 rfl) ?_
  have hi14 : vp_in v1 6 := (vp_of (by have p_h_v1 := vp_to h_v1; have p_h_v2 := vp_to h_v2; have p_h_v3 := vp_to h_v3; omega))
  refine va_aldT hx hb hK hP 5 1 rfl rfl hi14 (hT _ (vp_lt hi14)).1 dX0_waysHad_14 ?_
  refine lv_aload_n hx hb dX0_waysHad_15 rfl (lv_at hl 1 rfl) ?_
  refine gf_X0_1 (v := .int wd) hx hb ht hown hK hP 0 rfl (ht _ wm_35) rfl dX0_waysHad_16 ?_
  obtain ⟨kp3, hk4⟩ := va_pl_get (X := W_lane cI cT L Y P S T R yd wd pc tc bl tm ya pa sa ta tr) (f := tg tk tf th) (hT _ (vp_lt hi14)).2
  refine kc0_i (rx := fun (_ : Unit) => ([] : va_W)) (pl1 := fun _ => va_pl LP (tg tk tf th)) (wr := [(L, .inr (0, [.int yd, .int wd, .int pc, .int tc, .int bl, .int tm, .ref Y, .ref P, .ref S, .ref T, .ref R])), (Y, .inl (cI, 5, .inl ya)), (P, .inl (cI, 5, .inl pa)), (S, .inl (cI, 5, .inl sa)), (T, .inl (cI, 5, .inl ta)), (R, .inl (cT, 6, .inr (.inr (.inr (.inr tr)))))]) (fun (_ : Unit) => W_lane cI cT L Y P S T R yd wd pc tc bl tm ya pa sa ta tr) (va_runVN (As := [.int wd]) (rest := []) ⟨hx, hb, hml, hown, ht⟩ (c_X3_drift l dC dI cI cT LP tk tf th (tA tr (Int32.toNatClampNeg v1)) wd ((hT _ (vp_lt hi14)).2) _) ⟨va_cnB 1 ht (gW wm_347) rfl rfl rfl (hNS _ (List.mem_of_getElem? (i := 40) rfl)) (ht _ wm_47) dv_X3_drift.2 ⟨Nat.le_of_ble_eq_true rfl, Nat.le_of_ble_eq_true rfl⟩, ht _ wm_345, ht _ wm_346⟩ (preV hK hNS (hP.part [] rfl) (hD.part [] (by decide) rfl) (va_recv hK hP (ci := 3) (q0 := kp3) rfl hk4)) rfl rfl hl.1 rfl (lv_room (Nat.le_of_ble_eq_true rfl)) dX0_waysHad_19 ⟨Nat.le_of_ble_eq_true rfl, Nat.le_of_ble_eq_true rfl⟩) hP hD hS hA [] [0, 1, 2, 3, 4, 5] [0, 1, 2, 3, 4, 5] rfl rfl (by decide) (by decide) (by decide) (fun _ => rfl) (fun r2 _ H locs e2 hP hD hS => ?_)
  rw [e2, lt1_def] at hF
  have hP : va_P (dC, dI) vwCl (W_lane cI cT L Y P S T R yd wd pc tc bl tm ya pa sa ta tr ++ va_pl LP (tg tk tf th)) H := hP
  have hD : va_D A (W_lane cI cT L Y P S T R yd wd pc tc bl tm ya pa sa ta tr ++ va_pl LP (tg tk tf th)) := hD
  refine lv_istore (lv' := [(5, .int r2), (4, .int r1), (0, .ref L), (1, .int v1), (2, .int v2), (3, .int v3)]) hx hb dX0_waysHad_22 hl (by decide) rfl (fun ls hl => ?_)
  refine lv_aload_n hx hb dX0_waysHad_24 rfl (lv_at hl 2 rfl) ?_
  refine gf_X0_7 (v := .ref P) hx hb ht hown hK hP 0 rfl (ht _ wm_41) rfl dX0_waysHad_25 ?_
  refine lv_iload_n hx hb dX0_waysHad_28 rfl (lv_at hl 5 rfl) ?_
  refine va_iald hx hb hK hP 2 0 rfl rfl (vp_of (by have p_h_v1 := vp_to h_v1; have p_h_v2 := vp_to h_v2; have p_h_v3 := vp_to h_v3; omega)) dX0_waysHad_29 ?_
  refine lv_aload_n hx hb dX0_waysHad_30 rfl (lv_at hl 2 rfl) ?_
  refine gf_X0_10 (v := .ref R) hx hb ht hown hK hP 0 rfl (ht _ wm_45) rfl dX0_waysHad_31 ?_
  refine lv_iload_n hx hb dX0_waysHad_34 rfl (lv_at hl 3 rfl) ?_
  have hi35 : vp_in v1 6 := (vp_of (by have p_h_v1 := vp_to h_v1; have p_h_v2 := vp_to h_v2; have p_h_v3 := vp_to h_v3; omega))
  refine va_aldT hx hb hK hP 5 1 rfl rfl hi35 (hT _ (vp_lt hi35)).1 dX0_waysHad_35 ?_
  obtain ⟨kp6, hk7⟩ := va_pl_get (X := W_lane cI cT L Y P S T R yd wd pc tc bl tm ya pa sa ta tr) (f := tg tk tf th) (hT _ (vp_lt hi35)).2
  refine kc0_i (rx := fun (_ : Unit) => ([] : va_W)) (pl1 := fun _ => va_pl LP (tg tk tf th)) (wr := [(L, .inr (0, [.int yd, .int wd, .int pc, .int tc, .int bl, .int tm, .ref Y, .ref P, .ref S, .ref T, .ref R])), (Y, .inl (cI, 5, .inl ya)), (P, .inl (cI, 5, .inl pa)), (S, .inl (cI, 5, .inl sa)), (T, .inl (cI, 5, .inl ta)), (R, .inl (cT, 6, .inr (.inr (.inr (.inr tr)))))]) (fun (_ : Unit) => W_lane cI cT L Y P S T R yd wd pc tc bl tm ya pa sa ta tr) (va_runVN (As := []) (rest := [.int (pa (Int32.toNatClampNeg v3))]) ⟨hx, hb, hml, hown, ht⟩ (c_X3_air l dC dI cI cT LP tk tf th (tA tr (Int32.toNatClampNeg v1)) ((hT _ (vp_lt hi35)).2) _) ⟨va_cnB 0 ht (gW wm_344) rfl rfl rfl (hNS _ (List.mem_of_getElem? (i := 41) rfl)) (ht _ wm_47) dv_X3_air.2 ⟨Nat.le_of_ble_eq_true rfl, Nat.le_of_ble_eq_true rfl⟩, ht _ wm_342, ht _ wm_343⟩ (preV hK hNS (hP.part [] rfl) (hD.part [] (by decide) rfl) (va_recv hK hP (ci := 3) (q0 := kp6) rfl hk7)) rfl rfl hl.1 rfl (lv_room (Nat.le_of_ble_eq_true rfl)) dX0_waysHad_36 ⟨Nat.le_of_ble_eq_true rfl, Nat.le_of_ble_eq_true rfl⟩) hP hD hS hA [] [0, 1, 2, 3, 4, 5] [0, 1, 2, 3, 4, 5] rfl rfl (by decide) (by decide) (by decide) (fun _ => rfl) (fun r5 _ H locs e5 hP hD hS => ?_)
  rw [e5, lt1_def] at hF
  have hP : va_P (dC, dI) vwCl (W_lane cI cT L Y P S T R yd wd pc tc bl tm ya pa sa ta tr ++ va_pl LP (tg tk tf th)) H := hP
  have hD : va_D A (W_lane cI cT L Y P S T R yd wd pc tc bl tm ya pa sa ta tr ++ va_pl LP (tg tk tf th)) := hD
  refine lv_imul hx hb dX0_waysHad_39 ?_
  refine lv_istore (lv' := [(6, .int ((pa (Int32.toNatClampNeg v3)) * r5)), (5, .int r2), (4, .int r1), (0, .ref L), (1, .int v1), (2, .int v2), (3, .int v3)]) hx hb dX0_waysHad_40 hl (by decide) rfl (fun ls hl => ?_)
  refine lv_iload hx hb dX0_waysHad_42 (lv_at hl 1 rfl) ?_
  refine lv_iload hx hb dX0_waysHad_44 (lv_at hl 2 rfl) ?_
  refine lv_isub hx hb dX0_waysHad_46 ?_
  refine lv_iload hx hb dX0_waysHad_47 (lv_at hl 0 rfl) ?_
  refine lv_ineg hx hb dX0_waysHad_49 ?_
  refine lv_aload_n hx hb dX0_waysHad_50 rfl (lv_at hl 3 rfl) ?_
  refine gf_X0_6 (v := .ref Y) hx hb ht hown hK hP 0 rfl (ht _ wm_40) rfl dX0_waysHad_51 ?_
  refine lv_iload_n hx hb dX0_waysHad_54 rfl (lv_at hl 6 rfl) ?_
  refine va_iald hx hb hK hP 1 0 rfl rfl (vp_of (by have p_h_v1 := vp_to h_v1; have p_h_v2 := vp_to h_v2; have p_h_v3 := vp_to h_v3; omega)) dX0_waysHad_55 ?_
  refine lv_ineg hx hb dX0_waysHad_56 ?_
  refine va_mmax hx hb (hml.trans hl.1.symm) hown (ht _ wm_451) (ht _ wm_452) (ht _ wm_214) (ht _ wm_453) (Nat.le_of_ble_eq_true rfl) (Nat.le_of_ble_eq_true rfl) (Nat.zero_le _) (Nat.zero_le _) dX0_waysHad_57 ?_
  refine va_mmax hx hb (hml.trans hl.1.symm) hown (ht _ wm_451) (ht _ wm_452) (ht _ wm_214) (ht _ wm_453) (Nat.le_of_ble_eq_true rfl) (Nat.le_of_ble_eq_true rfl) (Nat.zero_le _) (Nat.zero_le _) dX0_waysHad_60 ?_
  refine lv_istore (lv' := [(7, .int (if (r2 - r1) < (if (-((pa (Int32.toNatClampNeg v3)) * r5)) < (-(ya (Int32.toNatClampNeg v3))) then (-(ya (Int32.toNatClampNeg v3))) else (-((pa (Int32.toNatClampNeg v3)) * r5))) then (if (-((pa (Int32.toNatClampNeg v3)) * r5)) < (-(ya (Int32.toNatClampNeg v3))) then (-(ya (Int32.toNatClampNeg v3))) else (-((pa (Int32.toNatClampNeg v3)) * r5))) else (r2 - r1))), (6, .int ((pa (Int32.toNatClampNeg v3)) * r5)), (5, .int r2), (4, .int r1), (0, .ref L), (1, .int v1), (2, .int v2), (3, .int v3)]) hx hb dX0_waysHad_63 hl (by decide) rfl (fun ls hl => ?_)
  refine lv_iload hx hb dX0_waysHad_65 (lv_at hl 2 rfl) ?_
  refine lv_iload hx hb dX0_waysHad_67 (lv_at hl 3 rfl) ?_
  refine lv_iadd hx hb dX0_waysHad_69 ?_
  refine lv_iload hx hb dX0_waysHad_70 (lv_at hl 1 rfl) ?_
  refine lv_aload_n hx hb dX0_waysHad_72 rfl (lv_at hl 4 rfl) ?_
  refine gf_X0_0 (v := .int yd) hx hb ht hown hK hP 0 rfl (ht _ wm_34) rfl dX0_waysHad_73 ?_
  refine lv_iconst (v := (1 : Int32)) hx hb dX0_waysHad_76 (by decide) ?_
  refine lv_isub hx hb dX0_waysHad_77 ?_
  refine lv_aload_n hx hb dX0_waysHad_78 rfl (lv_at hl 4 rfl) ?_
  refine gf_X0_6 (v := .ref Y) hx hb ht hown hK hP 0 rfl (ht _ wm_40) rfl dX0_waysHad_79 ?_
  refine lv_iload_n hx hb dX0_waysHad_82 rfl (lv_at hl 7 rfl) ?_
  refine va_iald hx hb hK hP 1 0 rfl rfl (vp_of (by have p_h_v1 := vp_to h_v1; have p_h_v2 := vp_to h_v2; have p_h_v3 := vp_to h_v3; omega)) dX0_waysHad_83 ?_
  refine lv_isub hx hb dX0_waysHad_84 ?_
  refine va_mmin hx hb (hml.trans hl.1.symm) hown (ht _ wm_212) (ht _ wm_213) (ht _ wm_214) (ht _ wm_215) (Nat.le_of_ble_eq_true rfl) (Nat.le_of_ble_eq_true rfl) (Nat.zero_le _) (Nat.zero_le _) dX0_waysHad_85 ?_
  refine va_mmin hx hb (hml.trans hl.1.symm) hown (ht _ wm_212) (ht _ wm_213) (ht _ wm_214) (ht _ wm_215) (Nat.le_of_ble_eq_true rfl) (Nat.le_of_ble_eq_true rfl) (Nat.zero_le _) (Nat.zero_le _) dX0_waysHad_88 ?_
  refine lv_istore (lv' := [(8, .int (if (if ((yd - (1 : Int32)) - (ya (Int32.toNatClampNeg v3))) < ((pa (Int32.toNatClampNeg v3)) * r5) then ((yd - (1 : Int32)) - (ya (Int32.toNatClampNeg v3))) else ((pa (Int32.toNatClampNeg v3)) * r5)) < (r2 + r1) then (if ((yd - (1 : Int32)) - (ya (Int32.toNatClampNeg v3))) < ((pa (Int32.toNatClampNeg v3)) * r5) then ((yd - (1 : Int32)) - (ya (Int32.toNatClampNeg v3))) else ((pa (Int32.toNatClampNeg v3)) * r5)) else (r2 + r1))), (7, .int (if (r2 - r1) < (if (-((pa (Int32.toNatClampNeg v3)) * r5)) < (-(ya (Int32.toNatClampNeg v3))) then (-(ya (Int32.toNatClampNeg v3))) else (-((pa (Int32.toNatClampNeg v3)) * r5))) then (if (-((pa (Int32.toNatClampNeg v3)) * r5)) < (-(ya (Int32.toNatClampNeg v3))) then (-(ya (Int32.toNatClampNeg v3))) else (-((pa (Int32.toNatClampNeg v3)) * r5))) else (r2 - r1))), (6, .int ((pa (Int32.toNatClampNeg v3)) * r5)), (5, .int r2), (4, .int r1), (0, .ref L), (1, .int v1), (2, .int v2), (3, .int v3)]) hx hb dX0_waysHad_91 hl (by decide) rfl (fun ls hl => ?_)
  refine lv_iconst (v := (0 : Int32)) hx hb dX0_waysHad_93 (by decide) ?_
  refine lv_iload hx hb dX0_waysHad_94 (lv_at hl 0 rfl) ?_
  refine lv_iload hx hb dX0_waysHad_96 (lv_at hl 1 rfl) ?_
  refine lv_isub hx hb dX0_waysHad_98 ?_
  refine lv_iconst (v := (1 : Int32)) hx hb dX0_waysHad_99 (by decide) ?_
  refine lv_iadd hx hb dX0_waysHad_100 ?_
  refine va_mmax hx hb (hml.trans hl.1.symm) hown (ht _ wm_451) (ht _ wm_452) (ht _ wm_214) (ht _ wm_453) (Nat.le_of_ble_eq_true rfl) (Nat.le_of_ble_eq_true rfl) (Nat.zero_le _) (Nat.zero_le _) dX0_waysHad_101 ?_
  exact hret (if (0 : Int32) < (((if (if ((yd - (1 : Int32)) - (ya (Int32.toNatClampNeg v3))) < ((pa (Int32.toNatClampNeg v3)) * r5) then ((yd - (1 : Int32)) - (ya (Int32.toNatClampNeg v3))) else ((pa (Int32.toNatClampNeg v3)) * r5)) < (r2 + r1) then (if ((yd - (1 : Int32)) - (ya (Int32.toNatClampNeg v3))) < ((pa (Int32.toNatClampNeg v3)) * r5) then ((yd - (1 : Int32)) - (ya (Int32.toNatClampNeg v3))) else ((pa (Int32.toNatClampNeg v3)) * r5)) else (r2 + r1)) - (if (r2 - r1) < (if (-((pa (Int32.toNatClampNeg v3)) * r5)) < (-(ya (Int32.toNatClampNeg v3))) then (-(ya (Int32.toNatClampNeg v3))) else (-((pa (Int32.toNatClampNeg v3)) * r5))) then (if (-((pa (Int32.toNatClampNeg v3)) * r5)) < (-(ya (Int32.toNatClampNeg v3))) then (-(ya (Int32.toNatClampNeg v3))) else (-((pa (Int32.toNatClampNeg v3)) * r5))) else (r2 - r1))) + (1 : Int32)) then (((if (if ((yd - (1 : Int32)) - (ya (Int32.toNatClampNeg v3))) < ((pa (Int32.toNatClampNeg v3)) * r5) then ((yd - (1 : Int32)) - (ya (Int32.toNatClampNeg v3))) else ((pa (Int32.toNatClampNeg v3)) * r5)) < (r2 + r1) then (if ((yd - (1 : Int32)) - (ya (Int32.toNatClampNeg v3))) < ((pa (Int32.toNatClampNeg v3)) * r5) then ((yd - (1 : Int32)) - (ya (Int32.toNatClampNeg v3))) else ((pa (Int32.toNatClampNeg v3)) * r5)) else (r2 + r1)) - (if (r2 - r1) < (if (-((pa (Int32.toNatClampNeg v3)) * r5)) < (-(ya (Int32.toNatClampNeg v3))) then (-(ya (Int32.toNatClampNeg v3))) else (-((pa (Int32.toNatClampNeg v3)) * r5))) then (if (-((pa (Int32.toNatClampNeg v3)) * r5)) < (-(ya (Int32.toNatClampNeg v3))) then (-(ya (Int32.toNatClampNeg v3))) else (-((pa (Int32.toNatClampNeg v3)) * r5))) else (r2 - r1))) + (1 : Int32)) else (0 : Int32)) () _ _ _ _ hF.symm rfl hP hD hS dX0_waysHad_104
def f_X0_isHad (yd : Int32) (wd : Int32) (ya : Nat → Int32) (pa : Nat → Int32) (tr : Nat → Option Nat) (tk : Nat → Int32) (tf : Nat → Int32) (th : Nat → Int32) (v1 : Int32) (v2 : Int32) (v3 : Int32) : Int32 := (lt1 (f_X3_drift tk tf th (tA tr (Int32.toNatClampNeg v1)) wd) (fun r1 => (lt1 (f_X3_air tk th (tA tr (Int32.toNatClampNeg v1))) (fun r4 => (lt1 (f_X0_hasYard yd ((ya (Int32.toNatClampNeg v2)) + (r1 + v3))) (fun r7 => (if r7 = (0 : Int32) then (0 : Int32) else (if ((pa (Int32.toNatClampNeg v2)) * r4) < (if 0 ≤ (r1 + v3) then (r1 + v3) else 0 - (r1 + v3)) then (0 : Int32) else (1 : Int32)))))))))
abbrev rm_X0_isHad : Room := { frames := 2, cells := 0, slots := 0, locals := 43 }
noncomputable abbrev wd_X0_isHad : List Cond := .code yX0_isHad cX0_isHad 6 (some .boolean) :: wsL_law
set_option maxHeartbeats 4000000 in
set_option maxRecDepth 100000 in
theorem c_X0_isHad (l : Launch) (dC : Nat → ClassId) (dI : Nat → Nat → Nat) (cI cT : ClassId) (L : Nat) (Y : Nat) (P : Nat) (S : Nat) (T : Nat) (R : Nat) (yd : Int32) (wd : Int32) (pc : Int32) (tc : Int32) (bl : Int32) (tm : Int32) (ya : Nat → Int32) (pa : Nat → Int32) (sa : Nat → Int32) (ta : Nat → Int32) (tr : Nat → Option Nat) (LP : List Nat) (tk tf th : Nat → Int32) (v1 : Int32) (v2 : Int32) (v3 : Int32) (h_v1 : vp_in v1 6) (h_v2 : vp_in v2 5) (hT : ∀ i, i < 6 → tr i = some (tA tr i) ∧ tA tr i ∈ LP) : CtI l (dC, dI) cI cT yX0_isHad wd_X0_isHad rm_X0_isHad [.ref L, .int v1, .int v2, .int v3] (W_lane cI cT L Y P S T R yd wd pc tc bl tm ya pa sa ta tr ++ va_pl LP (tg tk tf th)) (fun (r : Int32) (_ : Unit) => f_X0_isHad yd wd ya pa tr tk tf th v1 v2 v3 = r ∧ (r = 0 ∨ r = 1)) (fun _ => W_lane cI cT L Y P S T R yd wd pc tc bl tm ya pa sa ta tr ++ va_pl LP (tg tk tf th)) 0 0 := by
  refine ct_i (cc := cX0_isHad) (maxL := 6) (by decide) rfl (Nat.le_of_ble_eq_true rfl) ?_
  intro p e s m args below meth c A ls Q hx hb hml hts hown hmn hA hK hNS hP hD hS hl hret
  have ht : ∀ w ∈ wsL_law, w.before args s = true := fun w h => hts w (List.mem_cons_of_mem _ h)
  have hl : lv_has ls 6 [(0, .ref L), (1, .int v1), (2, .int v2), (3, .int v3)] := hl
  generalize hF : f_X0_isHad yd wd ya pa tr tk tf th v1 v2 v3 = F at hret
  unfold f_X0_isHad at hF
  refine lv_aload_n hx hb dX0_isHad_0 rfl (lv_at hl 0 rfl) ?_
  refine gf_X0_10 (v := .ref R) hx hb ht hown hK hP 0 rfl (ht _ wm_45) rfl dX0_isHad_1 ?_
  refine lv_iload_n hx hb dX0_isHad_4 rfl (lv_at hl 1 rfl) ?_
  have hi5 : vp_in v1 6 := (vp_of (by have p_h_v1 := vp_to h_v1; have p_h_v2 := vp_to h_v2; omega))
  refine va_aldT hx hb hK hP 5 1 rfl rfl hi5 (hT _ (vp_lt hi5)).1 dX0_isHad_5 ?_
  refine lv_aload_n hx hb dX0_isHad_6 rfl (lv_at hl 0 rfl) ?_
  refine gf_X0_1 (v := .int wd) hx hb ht hown hK hP 0 rfl (ht _ wm_35) rfl dX0_isHad_7 ?_
  obtain ⟨kp2, hk3⟩ := va_pl_get (X := W_lane cI cT L Y P S T R yd wd pc tc bl tm ya pa sa ta tr) (f := tg tk tf th) (hT _ (vp_lt hi5)).2
  refine kc0_i (rx := fun (_ : Unit) => ([] : va_W)) (pl1 := fun _ => va_pl LP (tg tk tf th)) (wr := [(L, .inr (0, [.int yd, .int wd, .int pc, .int tc, .int bl, .int tm, .ref Y, .ref P, .ref S, .ref T, .ref R])), (Y, .inl (cI, 5, .inl ya)), (P, .inl (cI, 5, .inl pa)), (S, .inl (cI, 5, .inl sa)), (T, .inl (cI, 5, .inl ta)), (R, .inl (cT, 6, .inr (.inr (.inr (.inr tr)))))]) (fun (_ : Unit) => W_lane cI cT L Y P S T R yd wd pc tc bl tm ya pa sa ta tr) (va_runVN (As := [.int wd]) (rest := []) ⟨hx, hb, hml, hown, ht⟩ (c_X3_drift l dC dI cI cT LP tk tf th (tA tr (Int32.toNatClampNeg v1)) wd ((hT _ (vp_lt hi5)).2) _) ⟨va_cnB 1 ht (gW wm_347) rfl rfl rfl (hNS _ (List.mem_of_getElem? (i := 40) rfl)) (ht _ wm_47) dv_X3_drift.2 ⟨Nat.le_of_ble_eq_true rfl, Nat.le_of_ble_eq_true rfl⟩, ht _ wm_345, ht _ wm_346⟩ (preV hK hNS (hP.part [] rfl) (hD.part [] (by decide) rfl) (va_recv hK hP (ci := 3) (q0 := kp2) rfl hk3)) rfl rfl hl.1 rfl (lv_room (Nat.le_of_ble_eq_true rfl)) dX0_isHad_10 ⟨Nat.le_of_ble_eq_true rfl, Nat.le_of_ble_eq_true rfl⟩) hP hD hS hA [] [0, 1, 2, 3, 4, 5] [0, 1, 2, 3, 4, 5] rfl rfl (by decide) (by decide) (by decide) (fun _ => rfl) (fun r1 _ H locs e1 hP hD hS => ?_)
  rw [e1, lt1_def] at hF
  have hP : va_P (dC, dI) vwCl (W_lane cI cT L Y P S T R yd wd pc tc bl tm ya pa sa ta tr ++ va_pl LP (tg tk tf th)) H := hP
  have hD : va_D A (W_lane cI cT L Y P S T R yd wd pc tc bl tm ya pa sa ta tr ++ va_pl LP (tg tk tf th)) := hD
  refine lv_iload_n hx hb dX0_isHad_13 rfl (lv_at hl 3 rfl) ?_
  refine lv_iadd hx hb dX0_isHad_14 ?_
  refine lv_istore (lv' := [(4, .int (r1 + v3)), (0, .ref L), (1, .int v1), (2, .int v2), (3, .int v3)]) hx hb dX0_isHad_15 hl (by decide) rfl (fun ls hl => ?_)
  refine lv_aload_n hx hb dX0_isHad_17 rfl (lv_at hl 1 rfl) ?_
  refine gf_X0_7 (v := .ref P) hx hb ht hown hK hP 0 rfl (ht _ wm_41) rfl dX0_isHad_18 ?_
  refine lv_iload_n hx hb dX0_isHad_21 rfl (lv_at hl 3 rfl) ?_
  refine va_iald hx hb hK hP 2 0 rfl rfl (vp_of (by have p_h_v1 := vp_to h_v1; have p_h_v2 := vp_to h_v2; omega)) dX0_isHad_22 ?_
  refine lv_aload_n hx hb dX0_isHad_23 rfl (lv_at hl 1 rfl) ?_
  refine gf_X0_10 (v := .ref R) hx hb ht hown hK hP 0 rfl (ht _ wm_45) rfl dX0_isHad_24 ?_
  refine lv_iload_n hx hb dX0_isHad_27 rfl (lv_at hl 2 rfl) ?_
  have hi28 : vp_in v1 6 := (vp_of (by have p_h_v1 := vp_to h_v1; have p_h_v2 := vp_to h_v2; omega))
  refine va_aldT hx hb hK hP 5 1 rfl rfl hi28 (hT _ (vp_lt hi28)).1 dX0_isHad_28 ?_
  obtain ⟨kp5, hk6⟩ := va_pl_get (X := W_lane cI cT L Y P S T R yd wd pc tc bl tm ya pa sa ta tr) (f := tg tk tf th) (hT _ (vp_lt hi28)).2
  refine kc0_i (rx := fun (_ : Unit) => ([] : va_W)) (pl1 := fun _ => va_pl LP (tg tk tf th)) (wr := [(L, .inr (0, [.int yd, .int wd, .int pc, .int tc, .int bl, .int tm, .ref Y, .ref P, .ref S, .ref T, .ref R])), (Y, .inl (cI, 5, .inl ya)), (P, .inl (cI, 5, .inl pa)), (S, .inl (cI, 5, .inl sa)), (T, .inl (cI, 5, .inl ta)), (R, .inl (cT, 6, .inr (.inr (.inr (.inr tr)))))]) (fun (_ : Unit) => W_lane cI cT L Y P S T R yd wd pc tc bl tm ya pa sa ta tr) (va_runVN (As := []) (rest := [.int (pa (Int32.toNatClampNeg v2))]) ⟨hx, hb, hml, hown, ht⟩ (c_X3_air l dC dI cI cT LP tk tf th (tA tr (Int32.toNatClampNeg v1)) ((hT _ (vp_lt hi28)).2) _) ⟨va_cnB 0 ht (gW wm_344) rfl rfl rfl (hNS _ (List.mem_of_getElem? (i := 41) rfl)) (ht _ wm_47) dv_X3_air.2 ⟨Nat.le_of_ble_eq_true rfl, Nat.le_of_ble_eq_true rfl⟩, ht _ wm_342, ht _ wm_343⟩ (preV hK hNS (hP.part [] rfl) (hD.part [] (by decide) rfl) (va_recv hK hP (ci := 3) (q0 := kp5) rfl hk6)) rfl rfl hl.1 rfl (lv_room (Nat.le_of_ble_eq_true rfl)) dX0_isHad_29 ⟨Nat.le_of_ble_eq_true rfl, Nat.le_of_ble_eq_true rfl⟩) hP hD hS hA [] [0, 1, 2, 3, 4, 5] [0, 1, 2, 3, 4, 5] rfl rfl (by decide) (by decide) (by decide) (fun _ => rfl) (fun r4 _ H locs e4 hP hD hS => ?_)
  rw [e4, lt1_def] at hF
  have hP : va_P (dC, dI) vwCl (W_lane cI cT L Y P S T R yd wd pc tc bl tm ya pa sa ta tr ++ va_pl LP (tg tk tf th)) H := hP
  have hD : va_D A (W_lane cI cT L Y P S T R yd wd pc tc bl tm ya pa sa ta tr ++ va_pl LP (tg tk tf th)) := hD
  refine lv_imul hx hb dX0_isHad_32 ?_
  refine lv_istore (lv' := [(5, .int ((pa (Int32.toNatClampNeg v2)) * r4)), (4, .int (r1 + v3)), (0, .ref L), (1, .int v1), (2, .int v2), (3, .int v3)]) hx hb dX0_isHad_33 hl (by decide) rfl (fun ls hl => ?_)
  refine lv_aload_n hx hb dX0_isHad_35 rfl (lv_at hl 2 rfl) ?_
  refine lv_aload_n hx hb dX0_isHad_36 rfl (lv_at hl 2 rfl) ?_
  refine gf_X0_6 (v := .ref Y) hx hb ht hown hK hP 0 rfl (ht _ wm_40) rfl dX0_isHad_37 ?_
  refine lv_iload_n hx hb dX0_isHad_40 rfl (lv_at hl 4 rfl) ?_
  refine va_iald hx hb hK hP 1 0 rfl rfl (vp_of (by have p_h_v1 := vp_to h_v1; have p_h_v2 := vp_to h_v2; omega)) dX0_isHad_41 ?_
  refine lv_iload hx hb dX0_isHad_42 (lv_at hl 1 rfl) ?_
  refine lv_iadd hx hb dX0_isHad_44 ?_
  refine kcF_i (rx := fun (_ : Unit) => W_lane cI cT L Y P S T R yd wd pc tc bl tm ya pa sa ta tr) (pl1 := fun _ => va_pl LP (tg tk tf th)) (va_runV (As := [.int ((ya (Int32.toNatClampNeg v2)) + (r1 + v3))]) (rest := []) ⟨hx, hb, hml, hown, ht⟩ (c_X0_hasYard l dC dI cI cT L Y P S T R yd wd pc tc bl tm ya pa sa ta tr LP tk tf th ((ya (Int32.toNatClampNeg v2)) + (r1 + v3)) _) (cwV 1 ht (gV wm_230 wm_231 wm_232 wm_14 wm_233) rfl rfl rfl dv_X0_hasYard ⟨Nat.le_of_ble_eq_true rfl, Nat.le_of_ble_eq_true rfl⟩) (preV hK hNS hP hD (va_recv hK hP (ci := 0) (q0 := 0) rfl rfl)) rfl rfl hl.1 rfl (lv_room (Nat.le_of_ble_eq_true rfl)) dX0_isHad_45 ⟨Nat.le_of_ble_eq_true rfl, Nat.le_of_ble_eq_true rfl⟩) hP hD hS hA (fun r7 _ H locs e7 hP hD hS => ?_)
  obtain ⟨e7, ze7⟩ := e7
  rw [e7, lt1_def] at hF
  have hP : va_P (dC, dI) vwCl (W_lane cI cT L Y P S T R yd wd pc tc bl tm ya pa sa ta tr ++ va_pl LP (tg tk tf th)) H := hP
  have hD : va_D A (W_lane cI cT L Y P S T R yd wd pc tc bl tm ya pa sa ta tr ++ va_pl LP (tg tk tf th)) := hD
  refine lv_if_eq (tgt := 65) hx hb dX0_isHad_48 (by decide) (fun c48 => ?_) (fun c48 => ?_)
  · rw [if_pos c48] at hF
    refine lv_iconst (v := (0 : Int32)) hx hb dX0_isHad_65 (by decide) ?_
    exact hret (0 : Int32) () _ _ _ _ ⟨hF.symm, (Or.inl rfl)⟩ (nb (Or.inl rfl)) hP hD hS dX0_isHad_66
  · rw [if_neg c48] at hF
    refine lv_iload hx hb dX0_isHad_51 (lv_at hl 1 rfl) ?_
    refine va_mabs hx hb (hml.trans hl.1.symm) hown (ht _ wm_444) (ht _ wm_445) (ht _ wm_214) (ht _ wm_446) (Nat.le_of_ble_eq_true rfl) (Nat.le_of_ble_eq_true rfl) (Nat.zero_le _) (Nat.zero_le _) dX0_isHad_53 ?_
    refine lv_iload hx hb dX0_isHad_56 (lv_at hl 0 rfl) ?_
    refine lv_icmp_gt (tgt := 65) hx hb dX0_isHad_58 (by decide) (fun c58 => ?_) (fun c58 => ?_)
    · rw [if_pos c58] at hF
      refine lv_iconst (v := (0 : Int32)) hx hb dX0_isHad_65 (by decide) ?_
      exact hret (0 : Int32) () _ _ _ _ ⟨hF.symm, (Or.inl rfl)⟩ (nb (Or.inl rfl)) hP hD hS dX0_isHad_66
    · rw [if_neg c58] at hF
      refine lv_iconst (v := (1 : Int32)) hx hb dX0_isHad_61 (by decide) ?_
      refine lv_goto (tgt := 66) hx hb dX0_isHad_62 (by decide) ?_
      exact hret (1 : Int32) () _ _ _ _ ⟨hF.symm, (Or.inr rfl)⟩ (nb (Or.inr rfl)) hP hD hS dX0_isHad_66
def f_X0_tire_L2 (pc : Int32) (v1 : Int32) (v2 : Int32) : Nat → Int32 → (Nat → Int32) → (Nat → Int32)
  | 0, v3, ta_l => ta_l
  | n_2 + 1, v3, ta_l => (if pc ≤ v3 then ta_l else (if v3 = v1 then (f_X0_tire_L2 pc v1 v2 n_2 (v3 + (1 : Int32)) (upd ta_l (Int32.toNatClampNeg v3) (if ((ta_l (Int32.toNatClampNeg v3)) + v2) < (99 : Int32) then ((ta_l (Int32.toNatClampNeg v3)) + v2) else (99 : Int32)))) else (f_X0_tire_L2 pc v1 v2 n_2 (v3 + (1 : Int32)) (upd ta_l (Int32.toNatClampNeg v3) (if (0 : Int32) < ((ta_l (Int32.toNatClampNeg v3)) - (1 : Int32)) then ((ta_l (Int32.toNatClampNeg v3)) - (1 : Int32)) else (0 : Int32))))))
def f_X0_tire (pc : Int32) (ta : Nat → Int32) (v1 : Int32) (v2 : Int32) : (Nat → Int32) := (f_X0_tire_L2 pc v1 v2 6 (0 : Int32) ta)
abbrev rm_X0_tire : Room := { frames := 1, cells := 0, slots := 0, locals := 21 }
noncomputable abbrev wd_X0_tire : List Cond := .code yX0_tire cX0_tire 4 none :: wsL_law
set_option maxHeartbeats 4000000 in
set_option maxRecDepth 100000 in
theorem c_X0_tire (l : Launch) (dC : Nat → ClassId) (dI : Nat → Nat → Nat) (cI cT : ClassId) (L : Nat) (Y : Nat) (P : Nat) (S : Nat) (T : Nat) (R : Nat) (yd : Int32) (wd : Int32) (pc : Int32) (tc : Int32) (bl : Int32) (tm : Int32) (ya : Nat → Int32) (pa : Nat → Int32) (sa : Nat → Int32) (ta : Nat → Int32) (tr : Nat → Option Nat) (LP : List Nat) (tk tf th : Nat → Int32) (v1 : Int32) (v2 : Int32) (hpc : 0 ≤ pc.toInt ∧ pc.toInt ≤ 5) : CtV l (dC, dI) cI cT yX0_tire wd_X0_tire rm_X0_tire [.ref L, .int v1, .int v2] (W_lane cI cT L Y P S T R yd wd pc tc bl tm ya pa sa ta tr ++ va_pl LP (tg tk tf th)) (fun (u : (Nat → Int32)) => f_X0_tire pc ta v1 v2 = u) (fun u => W_lane cI cT L Y P S T R yd wd pc tc bl tm ya pa sa u tr ++ va_pl LP (tg tk tf th)) 0 0 := by
  refine ct_v (cc := cX0_tire) (maxL := 4) (by decide) rfl (Nat.le_of_ble_eq_true rfl) ?_
  intro p e s m args below meth c A ls Q hx hb hml hts hown hmn hA hK hNS hP hD hS hl hret
  have ht : ∀ w ∈ wsL_law, w.before args s = true := fun w h => hts w (List.mem_cons_of_mem _ h)
  have hl : lv_has ls 4 [(0, .ref L), (1, .int v1), (2, .int v2)] := hl
  generalize hF : f_X0_tire pc ta v1 v2 = F at hret
  unfold f_X0_tire at hF
  have K_2 : ∀ (n_2 : Nat) (v3 : Int32) (ta_l : Nat → Int32) (H : Heap) (locs : List Loc) (ls : Array Slot), (0 ≤ v3.toInt) → (pc.toInt - v3.toInt).toNat < n_2 → lv_has ls 4 [(0, .ref L), (1, .int v1), (2, .int v2), (3, .int v3)] → va_P (dC, dI) vwCl (W_lane cI cT L Y P S T R yd wd pc tc bl tm ya pa sa ta_l tr ++ va_pl LP (tg tk tf th)) H → va_D A (W_lane cI cT L Y P S T R yd wd pc tc bl tm ya pa sa ta_l tr ++ va_pl LP (tg tk tf th)) → va_S A s.heap H locs → f_X0_tire_L2 pc v1 v2 n_2 v3 ta_l = F → W p l e rm_X0_tire s m args below meth c H locs 0 0 Q (F0 m 2 ls []) := by
    intro n_2
    induction n_2 with
    | zero => intro v3 ta_l H locs ls hinv_2 hms; exact absurd hms (Nat.not_lt_zero _)
    | succ n_2 ih_2 =>
      intro v3 ta_l H locs ls hinv_2 hms_2 hl hP hD hS hF
      rw [f_X0_tire_L2] at hF
      refine lv_iload_n hx hb dX0_tire_2 rfl (lv_at hl 3 rfl) ?_
      refine lv_aload_n hx hb dX0_tire_3 rfl (lv_at hl 0 rfl) ?_
      refine gf_X0_2 (v := .int pc) hx hb ht hown hK hP 0 rfl (ht _ wm_36) rfl dX0_tire_4 ?_
      refine lv_icmp_ge (tgt := 55) hx hb dX0_tire_7 (by decide) (fun c7 => ?_) (fun c7 => ?_)
      · rw [if_pos c7] at hF
        exact hret ta_l _ _ _ _ hF.symm hP hD hS dX0_tire_55
      · rw [if_neg c7] at hF
        refine lv_aload_n hx hb dX0_tire_10 rfl (lv_at hl 0 rfl) ?_
        refine gf_X0_9 (v := .ref T) hx hb ht hown hK hP 0 rfl (ht _ wm_43) rfl dX0_tire_11 ?_
        refine lv_iload_n hx hb dX0_tire_14 rfl (lv_at hl 3 rfl) ?_
        refine lv_iload_n hx hb dX0_tire_15 rfl (lv_at hl 3 rfl) ?_
        refine lv_iload_n hx hb dX0_tire_16 rfl (lv_at hl 1 rfl) ?_
        refine lv_icmp_ne (tgt := 36) hx hb dX0_tire_17 (by decide) (fun c17 => ?_) (fun c17 => ?_)
        · rw [if_neg c17] at hF
          refine lv_iconst (v := (0 : Int32)) hx hb dX0_tire_36 (by decide) ?_
          refine lv_aload_n hx hb dX0_tire_37 rfl (lv_at hl 0 rfl) ?_
          refine gf_X0_9 (v := .ref T) hx hb ht hown hK hP 0 rfl (ht _ wm_43) rfl dX0_tire_38 ?_
          refine lv_iload_n hx hb dX0_tire_41 rfl (lv_at hl 3 rfl) ?_
          refine va_iald hx hb hK hP 4 0 rfl rfl (vp_of (by have q_c7 := mt Int32.le_iff_toInt_le.mpr c7; have i_c7 := inc_nle c7; have q_c17 : ¬ Int32.toInt v3 = Int32.toInt v1 := fun h => c17 (Int32.toInt_inj.mp h); omega)) dX0_tire_42 ?_
          refine lv_iconst (v := (1 : Int32)) hx hb dX0_tire_43 (by decide) ?_
          refine lv_isub hx hb dX0_tire_44 ?_
          refine va_mmax hx hb (hml.trans hl.1.symm) hown (ht _ wm_451) (ht _ wm_452) (ht _ wm_214) (ht _ wm_453) (Nat.le_of_ble_eq_true rfl) (Nat.le_of_ble_eq_true rfl) (Nat.zero_le _) (Nat.zero_le _) dX0_tire_45 ?_
          refine va_iast hx hb hK hP hD hS 4 0 rfl rfl (vp_of (by have q_c7 := mt Int32.le_iff_toInt_le.mpr c7; have i_c7 := inc_nle c7; have q_c17 : ¬ Int32.toInt v3 = Int32.toInt v1 := fun h => c17 (Int32.toInt_inj.mp h); omega)) dX0_tire_48 (fun H locs hP hD hS => ?_)
          have hP : va_P (dC, dI) vwCl (W_lane cI cT L Y P S T R yd wd pc tc bl tm ya pa sa (upd ta_l (Int32.toNatClampNeg v3) (if (0 : Int32) < ((ta_l (Int32.toNatClampNeg v3)) - (1 : Int32)) then ((ta_l (Int32.toNatClampNeg v3)) - (1 : Int32)) else (0 : Int32))) tr ++ va_pl LP (tg tk tf th)) H := hP
          have hD : va_D A (W_lane cI cT L Y P S T R yd wd pc tc bl tm ya pa sa (upd ta_l (Int32.toNatClampNeg v3) (if (0 : Int32) < ((ta_l (Int32.toNatClampNeg v3)) - (1 : Int32)) then ((ta_l (Int32.toNatClampNeg v3)) - (1 : Int32)) else (0 : Int32))) tr ++ va_pl LP (tg tk tf th)) := hD
          refine lv_iinc (v := (v3 + (1 : Int32))) (lv' := [(3, .int (v3 + (1 : Int32))), (0, .ref L), (1, .int v1), (2, .int v2)]) hx hb dX0_tire_49 hl (k := 3) rfl (by rfl) (by decide) rfl (fun ls hl => ?_)
          refine lv_goto (tgt := 2) hx hb dX0_tire_52 (by decide) ?_
          exact ih_2 (v3 + (1 : Int32)) (upd ta_l (Int32.toNatClampNeg v3) (if (0 : Int32) < ((ta_l (Int32.toNatClampNeg v3)) - (1 : Int32)) then ((ta_l (Int32.toNatClampNeg v3)) - (1 : Int32)) else (0 : Int32))) _ _ _ (by have zl_0 : (0 : Int32).toInt = 0 := (by decide); have zl_1 : (1 : Int32).toInt = 1 := (by decide); have q_c7 := mt Int32.le_iff_toInt_le.mpr c7; have i_c7 := inc_nle c7; have q_c17 : ¬ Int32.toInt v3 = Int32.toInt v1 := fun h => c17 (Int32.toInt_inj.mp h); omega) (by have zl_0 : (0 : Int32).toInt = 0 := (by decide); have zl_1 : (1 : Int32).toInt = 1 := (by decide); have q_c7 := mt Int32.le_iff_toInt_le.mpr c7; have i_c7 := inc_nle c7; have q_c17 : ¬ Int32.toInt v3 = Int32.toInt v1 := fun h => c17 (Int32.toInt_inj.mp h); omega) (lv_sub hl [1, 2, 3, 0] rfl) hP hD hS hF
        · rw [if_pos c17] at hF
          refine lv_bipush (v := (99 : Int32)) hx hb dX0_tire_20 (by decide) ?_
          refine lv_aload_n hx hb dX0_tire_22 rfl (lv_at hl 0 rfl) ?_
          refine gf_X0_9 (v := .ref T) hx hb ht hown hK hP 0 rfl (ht _ wm_43) rfl dX0_tire_23 ?_
          refine lv_iload_n hx hb dX0_tire_26 rfl (lv_at hl 3 rfl) ?_
          refine va_iald hx hb hK hP 4 0 rfl rfl (vp_of (by have q_c7 := mt Int32.le_iff_toInt_le.mpr c7; have i_c7 := inc_nle c7; have q_c17 := congrArg Int32.toInt c17; omega)) dX0_tire_27 ?_
          refine lv_iload_n hx hb dX0_tire_28 rfl (lv_at hl 2 rfl) ?_
          refine lv_iadd hx hb dX0_tire_29 ?_
          refine va_mmin hx hb (hml.trans hl.1.symm) hown (ht _ wm_212) (ht _ wm_213) (ht _ wm_214) (ht _ wm_215) (Nat.le_of_ble_eq_true rfl) (Nat.le_of_ble_eq_true rfl) (Nat.zero_le _) (Nat.zero_le _) dX0_tire_30 ?_
          refine lv_goto (tgt := 48) hx hb dX0_tire_33 (by decide) ?_
          refine va_iast hx hb hK hP hD hS 4 0 rfl rfl (vp_of (by have q_c7 := mt Int32.le_iff_toInt_le.mpr c7; have i_c7 := inc_nle c7; have q_c17 := congrArg Int32.toInt c17; omega)) dX0_tire_48 (fun H locs hP hD hS => ?_)
          have hP : va_P (dC, dI) vwCl (W_lane cI cT L Y P S T R yd wd pc tc bl tm ya pa sa (upd ta_l (Int32.toNatClampNeg v3) (if ((ta_l (Int32.toNatClampNeg v3)) + v2) < (99 : Int32) then ((ta_l (Int32.toNatClampNeg v3)) + v2) else (99 : Int32))) tr ++ va_pl LP (tg tk tf th)) H := hP
          have hD : va_D A (W_lane cI cT L Y P S T R yd wd pc tc bl tm ya pa sa (upd ta_l (Int32.toNatClampNeg v3) (if ((ta_l (Int32.toNatClampNeg v3)) + v2) < (99 : Int32) then ((ta_l (Int32.toNatClampNeg v3)) + v2) else (99 : Int32))) tr ++ va_pl LP (tg tk tf th)) := hD
          refine lv_iinc (v := (v3 + (1 : Int32))) (lv' := [(3, .int (v3 + (1 : Int32))), (0, .ref L), (1, .int v1), (2, .int v2)]) hx hb dX0_tire_49 hl (k := 3) rfl (by rfl) (by decide) rfl (fun ls hl => ?_)
          refine lv_goto (tgt := 2) hx hb dX0_tire_52 (by decide) ?_
          exact ih_2 (v3 + (1 : Int32)) (upd ta_l (Int32.toNatClampNeg v3) (if ((ta_l (Int32.toNatClampNeg v3)) + v2) < (99 : Int32) then ((ta_l (Int32.toNatClampNeg v3)) + v2) else (99 : Int32))) _ _ _ (by have zl_0 : (1 : Int32).toInt = 1 := (by decide); have zl_1 : (99 : Int32).toInt = 99 := (by decide); have q_c7 := mt Int32.le_iff_toInt_le.mpr c7; have i_c7 := inc_nle c7; have q_c17 := congrArg Int32.toInt c17; omega) (by have zl_0 : (1 : Int32).toInt = 1 := (by decide); have zl_1 : (99 : Int32).toInt = 99 := (by decide); have q_c7 := mt Int32.le_iff_toInt_le.mpr c7; have i_c7 := inc_nle c7; have q_c17 := congrArg Int32.toInt c17; omega) (lv_sub hl [1, 2, 3, 0] rfl) hP hD hS hF
  refine lv_iconst (v := (0 : Int32)) hx hb dX0_tire_0 (by decide) ?_
  refine lv_istore_n (lv' := [(3, .int (0 : Int32)), (0, .ref L), (1, .int v1), (2, .int v2)]) hx hb dX0_tire_1 rfl hl (by decide) rfl (fun ls hl => ?_)
  exact K_2 6 (0 : Int32) ta _ _ _ (by have zl_0 : (0 : Int32).toInt = 0 := (by decide); omega) (by have zl_0 : (0 : Int32).toInt = 0 := (by decide); omega) (lv_sub hl [1, 2, 3, 0] rfl) hP hD hS hF
def f_X0_play (yd : Int32) (wd : Int32) (pc : Int32) (bl : Int32) (tm : Int32) (ya : Nat → Int32) (pa : Nat → Int32) (ta : Nat → Int32) (tr : Nat → Option Nat) (tk : Nat → Int32) (tf : Nat → Int32) (th : Nat → Int32) (v1 : Int32) (v2 : Int32) (v3 : Int32) : Int32 × (Int32) × (Int32) × (Nat → Int32) × (Nat → Int32) := (lt1 (f_X0_isHad yd wd ya pa tr tk tf th v1 v2 v3) (fun r1 => (if r1 = (0 : Int32) then (lt1 (f_X3_tires tk tf (tA tr (Int32.toNatClampNeg v1))) (fun r2 => (lt1 (f_X0_tire pc ta bl r2) (fun u5 => (r1, (-9 : Int32), (0 : Int32), ya, u5))))) else (lt1 (f_X3_drift tk tf th (tA tr (Int32.toNatClampNeg v1)) wd) (fun r6 => (lt1 (f_X3_tires tk tf (tA tr (Int32.toNatClampNeg v1))) (fun r9 => (lt1 (f_X0_tire pc ta bl r9) (fun u12 => (r1, v2, (tm + (1 : Int32)), (upd ya (Int32.toNatClampNeg v2) ((ya (Int32.toNatClampNeg v2)) + (r6 + v3))), u12))))))))))
abbrev rm_X0_play : Room := { frames := 3, cells := 0, slots := 0, locals := 68 }
noncomputable abbrev wd_X0_play : List Cond := .code yX0_play cX0_play 6 (some .boolean) :: wsL_law
set_option maxHeartbeats 4000000 in
set_option maxRecDepth 100000 in
theorem c_X0_play (l : Launch) (dC : Nat → ClassId) (dI : Nat → Nat → Nat) (cI cT : ClassId) (L : Nat) (Y : Nat) (P : Nat) (S : Nat) (T : Nat) (R : Nat) (yd : Int32) (wd : Int32) (pc : Int32) (tc : Int32) (bl : Int32) (tm : Int32) (ya : Nat → Int32) (pa : Nat → Int32) (sa : Nat → Int32) (ta : Nat → Int32) (tr : Nat → Option Nat) (LP : List Nat) (tk tf th : Nat → Int32) (v1 : Int32) (v2 : Int32) (v3 : Int32) (h_v1 : vp_in v1 6) (h_v2 : vp_in v2 5) (hpc : 0 ≤ pc.toInt ∧ pc.toInt ≤ 5) (hT : ∀ i, i < 6 → tr i = some (tA tr i) ∧ tA tr i ∈ LP) : CtI l (dC, dI) cI cT yX0_play wd_X0_play rm_X0_play [.ref L, .int v1, .int v2, .int v3] (W_lane cI cT L Y P S T R yd wd pc tc bl tm ya pa sa ta tr ++ va_pl LP (tg tk tf th)) (fun (r : Int32) (u : (Int32) × (Int32) × (Nat → Int32) × (Nat → Int32)) => f_X0_play yd wd pc bl tm ya pa ta tr tk tf th v1 v2 v3 = (r, u) ∧ (r = 0 ∨ r = 1) ∧ ((r.toInt = 0 ∧ u.1.toInt = -9 ∨ r.toInt ≠ 0 ∧ u.1.toInt = v2.toInt))) (fun u => W_lane cI cT L Y P S T R yd wd pc tc u.1 u.2.1 u.2.2.1 pa sa u.2.2.2 tr ++ va_pl LP (tg tk tf th)) 0 0 := by
  refine ct_i (cc := cX0_play) (maxL := 6) (by decide) rfl (Nat.le_of_ble_eq_true rfl) ?_
  intro p e s m args below meth c A ls Q hx hb hml hts hown hmn hA hK hNS hP hD hS hl hret
  have ht : ∀ w ∈ wsL_law, w.before args s = true := fun w h => hts w (List.mem_cons_of_mem _ h)
  have hl : lv_has ls 6 [(0, .ref L), (1, .int v1), (2, .int v2), (3, .int v3)] := hl
  generalize hF : f_X0_play yd wd pc bl tm ya pa ta tr tk tf th v1 v2 v3 = F at hret
  unfold f_X0_play at hF
  refine lv_aload_n hx hb dX0_play_0 rfl (lv_at hl 0 rfl) ?_
  refine gf_X0_4 (v := .int bl) hx hb ht hown hK hP 0 rfl (ht _ wm_38) rfl dX0_play_1 ?_
  refine lv_istore (lv' := [(4, .int bl), (0, .ref L), (1, .int v1), (2, .int v2), (3, .int v3)]) hx hb dX0_play_4 hl (by decide) rfl (fun ls hl => ?_)
  refine lv_aload_n hx hb dX0_play_6 rfl (lv_at hl 1 rfl) ?_
  refine lv_iload_n hx hb dX0_play_7 rfl (lv_at hl 2 rfl) ?_
  refine lv_iload_n hx hb dX0_play_8 rfl (lv_at hl 3 rfl) ?_
  refine lv_iload_n hx hb dX0_play_9 rfl (lv_at hl 4 rfl) ?_
  refine kcF_i (rx := fun (_ : Unit) => W_lane cI cT L Y P S T R yd wd pc tc bl tm ya pa sa ta tr) (pl1 := fun _ => va_pl LP (tg tk tf th)) (va_runV (As := [.int v1, .int v2, .int v3]) (rest := []) ⟨hx, hb, hml, hown, ht⟩ (c_X0_isHad l dC dI cI cT L Y P S T R yd wd pc tc bl tm ya pa sa ta tr LP tk tf th v1 v2 v3 (vp_of (by have p_h_v1 := vp_to h_v1; have p_h_v2 := vp_to h_v2; omega)) (vp_of (by have p_h_v1 := vp_to h_v1; have p_h_v2 := vp_to h_v2; omega)) hT _) (cwV 3 ht (gV wm_440 wm_441 wm_442 wm_14 wm_443) rfl rfl rfl dv_X0_isHad ⟨Nat.le_of_ble_eq_true rfl, Nat.le_of_ble_eq_true rfl⟩) (preV hK hNS hP hD (va_recv hK hP (ci := 0) (q0 := 0) rfl rfl)) rfl rfl hl.1 rfl (lv_room (Nat.le_of_ble_eq_true rfl)) dX0_play_10 ⟨Nat.le_of_ble_eq_true rfl, Nat.le_of_ble_eq_true rfl⟩) hP hD hS hA (fun r1 _ H locs e1 hP hD hS => ?_)
  obtain ⟨e1, ze1⟩ := e1
  rw [e1, lt1_def] at hF
  have hP : va_P (dC, dI) vwCl (W_lane cI cT L Y P S T R yd wd pc tc bl tm ya pa sa ta tr ++ va_pl LP (tg tk tf th)) H := hP
  have hD : va_D A (W_lane cI cT L Y P S T R yd wd pc tc bl tm ya pa sa ta tr ++ va_pl LP (tg tk tf th)) := hD
  refine lv_istore (lv' := [(5, .int r1), (4, .int bl), (0, .ref L), (1, .int v1), (2, .int v2), (3, .int v3)]) hx hb dX0_play_13 hl (by decide) rfl (fun ls hl => ?_)
  refine lv_iload hx hb dX0_play_15 (lv_at hl 0 rfl) ?_
  refine lv_if_eq (tgt := 62) hx hb dX0_play_17 (by decide) (fun c17 => ?_) (fun c17 => ?_)
  · rw [if_pos c17] at hF
    refine lv_aload_n hx hb dX0_play_62 rfl (lv_at hl 2 rfl) ?_
    refine lv_bipush (v := (-9 : Int32)) hx hb dX0_play_63 (by decide) ?_
    refine pf_X0_4 (v := .int (-9 : Int32)) hx hb ht hown hK hP hD hS 0 rfl (ht _ wm_38) rfl rfl (Nat.le_of_ble_eq_true rfl) dX0_play_65 (fun H locs hP hD hS => ?_)
    have hP : va_P (dC, dI) vwCl (W_lane cI cT L Y P S T R yd wd pc tc (-9 : Int32) tm ya pa sa ta tr ++ va_pl LP (tg tk tf th)) H := hP
    have hD : va_D A (W_lane cI cT L Y P S T R yd wd pc tc (-9 : Int32) tm ya pa sa ta tr ++ va_pl LP (tg tk tf th)) := hD
    refine lv_aload_n hx hb dX0_play_68 rfl (lv_at hl 2 rfl) ?_
    refine lv_iconst (v := (0 : Int32)) hx hb dX0_play_69 (by decide) ?_
    refine pf_X0_5 (v := .int (0 : Int32)) hx hb ht hown hK hP hD hS 0 rfl (ht _ wm_39) rfl rfl (Nat.le_of_ble_eq_true rfl) dX0_play_70 (fun H locs hP hD hS => ?_)
    have hP : va_P (dC, dI) vwCl (W_lane cI cT L Y P S T R yd wd pc tc (-9 : Int32) (0 : Int32) ya pa sa ta tr ++ va_pl LP (tg tk tf th)) H := hP
    have hD : va_D A (W_lane cI cT L Y P S T R yd wd pc tc (-9 : Int32) (0 : Int32) ya pa sa ta tr ++ va_pl LP (tg tk tf th)) := hD
    refine lv_aload_n hx hb dX0_play_73 rfl (lv_at hl 2 rfl) ?_
    refine lv_iload hx hb dX0_play_74 (lv_at hl 1 rfl) ?_
    refine lv_aload_n hx hb dX0_play_76 rfl (lv_at hl 2 rfl) ?_
    refine gf_X0_10 (v := .ref R) hx hb ht hown hK hP 0 rfl (ht _ wm_45) rfl dX0_play_77 ?_
    refine lv_iload_n hx hb dX0_play_80 rfl (lv_at hl 3 rfl) ?_
    have hi81 : vp_in v1 6 := (vp_of (by have zl_0 : (0 : Int32).toInt = 0 := (by decide); have p_h_v1 := vp_to h_v1; have p_h_v2 := vp_to h_v2; have q_c17 := congrArg Int32.toInt c17; omega))
    refine va_aldT hx hb hK hP 5 1 rfl rfl hi81 (hT _ (vp_lt hi81)).1 dX0_play_81 ?_
    obtain ⟨kp3, hk4⟩ := va_pl_get (X := W_lane cI cT L Y P S T R yd wd pc tc (-9 : Int32) (0 : Int32) ya pa sa ta tr) (f := tg tk tf th) (hT _ (vp_lt hi81)).2
    refine kc0_i (rx := fun (_ : Unit) => ([] : va_W)) (pl1 := fun _ => va_pl LP (tg tk tf th)) (wr := [(L, .inr (0, [.int yd, .int wd, .int pc, .int tc, .int (-9 : Int32), .int (0 : Int32), .ref Y, .ref P, .ref S, .ref T, .ref R])), (Y, .inl (cI, 5, .inl ya)), (P, .inl (cI, 5, .inl pa)), (S, .inl (cI, 5, .inl sa)), (T, .inl (cI, 5, .inl ta)), (R, .inl (cT, 6, .inr (.inr (.inr (.inr tr)))))]) (fun (_ : Unit) => W_lane cI cT L Y P S T R yd wd pc tc (-9 : Int32) (0 : Int32) ya pa sa ta tr) (va_runVN (As := []) (rest := [.int bl, .ref L]) ⟨hx, hb, hml, hown, ht⟩ (c_X3_tires l dC dI cI cT LP tk tf th (tA tr (Int32.toNatClampNeg v1)) ((hT _ (vp_lt hi81)).2) _) ⟨va_cnB 0 ht (gW wm_351) rfl rfl rfl (hNS _ (List.mem_of_getElem? (i := 42) rfl)) (ht _ wm_47) dv_X3_tires.2 ⟨Nat.le_of_ble_eq_true rfl, Nat.le_of_ble_eq_true rfl⟩, ht _ wm_349, ht _ wm_350⟩ (preV hK hNS (hP.part [] rfl) (hD.part [] (by decide) rfl) (va_recv hK hP (ci := 3) (q0 := kp3) rfl hk4)) rfl rfl hl.1 rfl (lv_room (Nat.le_of_ble_eq_true rfl)) dX0_play_82 ⟨Nat.le_of_ble_eq_true rfl, Nat.le_of_ble_eq_true rfl⟩) hP hD hS hA [] [0, 1, 2, 3, 4, 5] [0, 1, 2, 3, 4, 5] rfl rfl (by decide) (by decide) (by decide) (fun _ => rfl) (fun r2 _ H locs e2 hP hD hS => ?_)
    rw [e2, lt1_def] at hF
    have hP : va_P (dC, dI) vwCl (W_lane cI cT L Y P S T R yd wd pc tc (-9 : Int32) (0 : Int32) ya pa sa ta tr ++ va_pl LP (tg tk tf th)) H := hP
    have hD : va_D A (W_lane cI cT L Y P S T R yd wd pc tc (-9 : Int32) (0 : Int32) ya pa sa ta tr ++ va_pl LP (tg tk tf th)) := hD
    refine kcF_v (rx := fun (u : (Nat → Int32)) => W_lane cI cT L Y P S T R yd wd pc tc (-9 : Int32) (0 : Int32) ya pa sa u tr) (pl1 := fun _ => va_pl LP (tg tk tf th)) (va_runV (As := [.int bl, .int r2]) (rest := []) ⟨hx, hb, hml, hown, ht⟩ (c_X0_tire l dC dI cI cT L Y P S T R yd wd pc tc (-9 : Int32) (0 : Int32) ya pa sa ta tr LP tk tf th bl r2 (by have zl_0 : (-9 : Int32).toInt = -9 := (by decide); have zl_1 : (0 : Int32).toInt = 0 := (by decide); have p_h_v1 := vp_to h_v1; have p_h_v2 := vp_to h_v2; have q_c17 := congrArg Int32.toInt c17; omega) _) (cwV 2 ht (gV wm_447 wm_448 wm_449 wm_14 wm_450) rfl rfl rfl dv_X0_tire ⟨Nat.le_of_ble_eq_true rfl, Nat.le_of_ble_eq_true rfl⟩) (preV hK hNS hP hD (va_recv hK hP (ci := 0) (q0 := 0) rfl rfl)) rfl rfl hl.1 rfl (lv_room (Nat.le_of_ble_eq_true rfl)) dX0_play_85 ⟨Nat.le_of_ble_eq_true rfl, Nat.le_of_ble_eq_true rfl⟩) hP hD hS hA (fun u5 H locs e5 hP hD hS => ?_)
    rw [e5, lt1_def] at hF
    have hP : va_P (dC, dI) vwCl (W_lane cI cT L Y P S T R yd wd pc tc (-9 : Int32) (0 : Int32) ya pa sa u5 tr ++ va_pl LP (tg tk tf th)) H := hP
    have hD : va_D A (W_lane cI cT L Y P S T R yd wd pc tc (-9 : Int32) (0 : Int32) ya pa sa u5 tr ++ va_pl LP (tg tk tf th)) := hD
    refine lv_iload hx hb dX0_play_88 (lv_at hl 0 rfl) ?_
    exact hret r1 ((-9 : Int32), (0 : Int32), ya, u5) _ _ _ _ ⟨hF.symm, ze1, by have zl_0 : (-9 : Int32).toInt = -9 := (by decide); have zl_1 : (0 : Int32).toInt = 0 := (by decide); have p_h_v1 := vp_to h_v1; have p_h_v2 := vp_to h_v2; have q_c17 := congrArg Int32.toInt c17; (try dsimp only); omega⟩ (nb ze1) hP hD hS dX0_play_90
  · rw [if_neg c17] at hF
    refine lv_aload_n hx hb dX0_play_20 rfl (lv_at hl 2 rfl) ?_
    refine gf_X0_6 (v := .ref Y) hx hb ht hown hK hP 0 rfl (ht _ wm_40) rfl dX0_play_21 ?_
    refine lv_iload_n hx hb dX0_play_24 rfl (lv_at hl 4 rfl) ?_
    refine lv_dup2_11 hx hb dX0_play_25 rfl rfl ?_
    refine va_iald hx hb hK hP 1 0 rfl rfl (vp_of (by have zl_0 : (0 : Int32).toInt = 0 := (by decide); have p_h_v1 := vp_to h_v1; have p_h_v2 := vp_to h_v2; have q_c17 : ¬ Int32.toInt r1 = Int32.toInt (0 : Int32) := fun h => c17 (Int32.toInt_inj.mp h); omega)) dX0_play_26 ?_
    refine lv_aload_n hx hb dX0_play_27 rfl (lv_at hl 2 rfl) ?_
    refine gf_X0_10 (v := .ref R) hx hb ht hown hK hP 0 rfl (ht _ wm_45) rfl dX0_play_28 ?_
    refine lv_iload_n hx hb dX0_play_31 rfl (lv_at hl 3 rfl) ?_
    have hi32 : vp_in v1 6 := (vp_of (by have zl_0 : (0 : Int32).toInt = 0 := (by decide); have p_h_v1 := vp_to h_v1; have p_h_v2 := vp_to h_v2; have q_c17 : ¬ Int32.toInt r1 = Int32.toInt (0 : Int32) := fun h => c17 (Int32.toInt_inj.mp h); omega))
    refine va_aldT hx hb hK hP 5 1 rfl rfl hi32 (hT _ (vp_lt hi32)).1 dX0_play_32 ?_
    refine lv_aload_n hx hb dX0_play_33 rfl (lv_at hl 2 rfl) ?_
    refine gf_X0_1 (v := .int wd) hx hb ht hown hK hP 0 rfl (ht _ wm_35) rfl dX0_play_34 ?_
    obtain ⟨kp7, hk8⟩ := va_pl_get (X := W_lane cI cT L Y P S T R yd wd pc tc bl tm ya pa sa ta tr) (f := tg tk tf th) (hT _ (vp_lt hi32)).2
    refine kc0_i (rx := fun (_ : Unit) => ([] : va_W)) (pl1 := fun _ => va_pl LP (tg tk tf th)) (wr := [(L, .inr (0, [.int yd, .int wd, .int pc, .int tc, .int bl, .int tm, .ref Y, .ref P, .ref S, .ref T, .ref R])), (Y, .inl (cI, 5, .inl ya)), (P, .inl (cI, 5, .inl pa)), (S, .inl (cI, 5, .inl sa)), (T, .inl (cI, 5, .inl ta)), (R, .inl (cT, 6, .inr (.inr (.inr (.inr tr)))))]) (fun (_ : Unit) => W_lane cI cT L Y P S T R yd wd pc tc bl tm ya pa sa ta tr) (va_runVN (As := [.int wd]) (rest := [.int (ya (Int32.toNatClampNeg v2)), .int v2, .ref Y]) ⟨hx, hb, hml, hown, ht⟩ (c_X3_drift l dC dI cI cT LP tk tf th (tA tr (Int32.toNatClampNeg v1)) wd ((hT _ (vp_lt hi32)).2) _) ⟨va_cnB 1 ht (gW wm_347) rfl rfl rfl (hNS _ (List.mem_of_getElem? (i := 40) rfl)) (ht _ wm_47) dv_X3_drift.2 ⟨Nat.le_of_ble_eq_true rfl, Nat.le_of_ble_eq_true rfl⟩, ht _ wm_345, ht _ wm_346⟩ (preV hK hNS (hP.part [] rfl) (hD.part [] (by decide) rfl) (va_recv hK hP (ci := 3) (q0 := kp7) rfl hk8)) rfl rfl hl.1 rfl (lv_room (Nat.le_of_ble_eq_true rfl)) dX0_play_37 ⟨Nat.le_of_ble_eq_true rfl, Nat.le_of_ble_eq_true rfl⟩) hP hD hS hA [] [0, 1, 2, 3, 4, 5] [0, 1, 2, 3, 4, 5] rfl rfl (by decide) (by decide) (by decide) (fun _ => rfl) (fun r6 _ H locs e6 hP hD hS => ?_)
    rw [e6, lt1_def] at hF
    have hP : va_P (dC, dI) vwCl (W_lane cI cT L Y P S T R yd wd pc tc bl tm ya pa sa ta tr ++ va_pl LP (tg tk tf th)) H := hP
    have hD : va_D A (W_lane cI cT L Y P S T R yd wd pc tc bl tm ya pa sa ta tr ++ va_pl LP (tg tk tf th)) := hD
    refine lv_iload_n hx hb dX0_play_40 rfl (lv_at hl 5 rfl) ?_
    refine lv_iadd hx hb dX0_play_41 ?_
    refine lv_iadd hx hb dX0_play_42 ?_
    refine va_iast hx hb hK hP hD hS 1 0 rfl rfl (vp_of (by have zl_0 : (0 : Int32).toInt = 0 := (by decide); have p_h_v1 := vp_to h_v1; have p_h_v2 := vp_to h_v2; have q_c17 : ¬ Int32.toInt r1 = Int32.toInt (0 : Int32) := fun h => c17 (Int32.toInt_inj.mp h); omega)) dX0_play_43 (fun H locs hP hD hS => ?_)
    have hP : va_P (dC, dI) vwCl (W_lane cI cT L Y P S T R yd wd pc tc bl tm (upd ya (Int32.toNatClampNeg v2) ((ya (Int32.toNatClampNeg v2)) + (r6 + v3))) pa sa ta tr ++ va_pl LP (tg tk tf th)) H := hP
    have hD : va_D A (W_lane cI cT L Y P S T R yd wd pc tc bl tm (upd ya (Int32.toNatClampNeg v2) ((ya (Int32.toNatClampNeg v2)) + (r6 + v3))) pa sa ta tr ++ va_pl LP (tg tk tf th)) := hD
    refine lv_aload_n hx hb dX0_play_44 rfl (lv_at hl 2 rfl) ?_
    refine lv_iload_n hx hb dX0_play_45 rfl (lv_at hl 4 rfl) ?_
    refine pf_X0_4 (v := .int v2) hx hb ht hown hK hP hD hS 0 rfl (ht _ wm_38) rfl rfl (Nat.le_of_ble_eq_true rfl) dX0_play_46 (fun H locs hP hD hS => ?_)
    have hP : va_P (dC, dI) vwCl (W_lane cI cT L Y P S T R yd wd pc tc v2 tm (upd ya (Int32.toNatClampNeg v2) ((ya (Int32.toNatClampNeg v2)) + (r6 + v3))) pa sa ta tr ++ va_pl LP (tg tk tf th)) H := hP
    have hD : va_D A (W_lane cI cT L Y P S T R yd wd pc tc v2 tm (upd ya (Int32.toNatClampNeg v2) ((ya (Int32.toNatClampNeg v2)) + (r6 + v3))) pa sa ta tr ++ va_pl LP (tg tk tf th)) := hD
    refine lv_aload_n hx hb dX0_play_49 rfl (lv_at hl 2 rfl) ?_
    refine lv_dup hx hb dX0_play_50 rfl ?_
    refine gf_X0_5 (v := .int tm) hx hb ht hown hK hP 0 rfl (ht _ wm_39) rfl dX0_play_51 ?_
    refine lv_iconst (v := (1 : Int32)) hx hb dX0_play_54 (by decide) ?_
    refine lv_iadd hx hb dX0_play_55 ?_
    refine pf_X0_5 (v := .int (tm + (1 : Int32))) hx hb ht hown hK hP hD hS 0 rfl (ht _ wm_39) rfl rfl (Nat.le_of_ble_eq_true rfl) dX0_play_56 (fun H locs hP hD hS => ?_)
    have hP : va_P (dC, dI) vwCl (W_lane cI cT L Y P S T R yd wd pc tc v2 (tm + (1 : Int32)) (upd ya (Int32.toNatClampNeg v2) ((ya (Int32.toNatClampNeg v2)) + (r6 + v3))) pa sa ta tr ++ va_pl LP (tg tk tf th)) H := hP
    have hD : va_D A (W_lane cI cT L Y P S T R yd wd pc tc v2 (tm + (1 : Int32)) (upd ya (Int32.toNatClampNeg v2) ((ya (Int32.toNatClampNeg v2)) + (r6 + v3))) pa sa ta tr ++ va_pl LP (tg tk tf th)) := hD
    refine lv_goto (tgt := 73) hx hb dX0_play_59 (by decide) ?_
    refine lv_aload_n hx hb dX0_play_73 rfl (lv_at hl 2 rfl) ?_
    refine lv_iload hx hb dX0_play_74 (lv_at hl 1 rfl) ?_
    refine lv_aload_n hx hb dX0_play_76 rfl (lv_at hl 2 rfl) ?_
    refine gf_X0_10 (v := .ref R) hx hb ht hown hK hP 0 rfl (ht _ wm_45) rfl dX0_play_77 ?_
    refine lv_iload_n hx hb dX0_play_80 rfl (lv_at hl 3 rfl) ?_
    have hi81 : vp_in v1 6 := (vp_of (by have zl_0 : (0 : Int32).toInt = 0 := (by decide); have p_h_v1 := vp_to h_v1; have p_h_v2 := vp_to h_v2; have q_c17 : ¬ Int32.toInt r1 = Int32.toInt (0 : Int32) := fun h => c17 (Int32.toInt_inj.mp h); omega))
    refine va_aldT hx hb hK hP 5 1 rfl rfl hi81 (hT _ (vp_lt hi81)).1 dX0_play_81 ?_
    obtain ⟨kp10, hk11⟩ := va_pl_get (X := W_lane cI cT L Y P S T R yd wd pc tc v2 (tm + (1 : Int32)) (upd ya (Int32.toNatClampNeg v2) ((ya (Int32.toNatClampNeg v2)) + (r6 + v3))) pa sa ta tr) (f := tg tk tf th) (hT _ (vp_lt hi81)).2
    refine kc0_i (rx := fun (_ : Unit) => ([] : va_W)) (pl1 := fun _ => va_pl LP (tg tk tf th)) (wr := [(L, .inr (0, [.int yd, .int wd, .int pc, .int tc, .int v2, .int (tm + (1 : Int32)), .ref Y, .ref P, .ref S, .ref T, .ref R])), (Y, .inl (cI, 5, .inl (upd ya (Int32.toNatClampNeg v2) ((ya (Int32.toNatClampNeg v2)) + (r6 + v3))))), (P, .inl (cI, 5, .inl pa)), (S, .inl (cI, 5, .inl sa)), (T, .inl (cI, 5, .inl ta)), (R, .inl (cT, 6, .inr (.inr (.inr (.inr tr)))))]) (fun (_ : Unit) => W_lane cI cT L Y P S T R yd wd pc tc v2 (tm + (1 : Int32)) (upd ya (Int32.toNatClampNeg v2) ((ya (Int32.toNatClampNeg v2)) + (r6 + v3))) pa sa ta tr) (va_runVN (As := []) (rest := [.int bl, .ref L]) ⟨hx, hb, hml, hown, ht⟩ (c_X3_tires l dC dI cI cT LP tk tf th (tA tr (Int32.toNatClampNeg v1)) ((hT _ (vp_lt hi81)).2) _) ⟨va_cnB 0 ht (gW wm_351) rfl rfl rfl (hNS _ (List.mem_of_getElem? (i := 42) rfl)) (ht _ wm_47) dv_X3_tires.2 ⟨Nat.le_of_ble_eq_true rfl, Nat.le_of_ble_eq_true rfl⟩, ht _ wm_349, ht _ wm_350⟩ (preV hK hNS (hP.part [] rfl) (hD.part [] (by decide) rfl) (va_recv hK hP (ci := 3) (q0 := kp10) rfl hk11)) rfl rfl hl.1 rfl (lv_room (Nat.le_of_ble_eq_true rfl)) dX0_play_82 ⟨Nat.le_of_ble_eq_true rfl, Nat.le_of_ble_eq_true rfl⟩) hP hD hS hA [] [0, 1, 2, 3, 4, 5] [0, 1, 2, 3, 4, 5] rfl rfl (by decide) (by decide) (by decide) (fun _ => rfl) (fun r9 _ H locs e9 hP hD hS => ?_)
    rw [e9, lt1_def] at hF
    have hP : va_P (dC, dI) vwCl (W_lane cI cT L Y P S T R yd wd pc tc v2 (tm + (1 : Int32)) (upd ya (Int32.toNatClampNeg v2) ((ya (Int32.toNatClampNeg v2)) + (r6 + v3))) pa sa ta tr ++ va_pl LP (tg tk tf th)) H := hP
    have hD : va_D A (W_lane cI cT L Y P S T R yd wd pc tc v2 (tm + (1 : Int32)) (upd ya (Int32.toNatClampNeg v2) ((ya (Int32.toNatClampNeg v2)) + (r6 + v3))) pa sa ta tr ++ va_pl LP (tg tk tf th)) := hD
    refine kcF_v (rx := fun (u : (Nat → Int32)) => W_lane cI cT L Y P S T R yd wd pc tc v2 (tm + (1 : Int32)) (upd ya (Int32.toNatClampNeg v2) ((ya (Int32.toNatClampNeg v2)) + (r6 + v3))) pa sa u tr) (pl1 := fun _ => va_pl LP (tg tk tf th)) (va_runV (As := [.int bl, .int r9]) (rest := []) ⟨hx, hb, hml, hown, ht⟩ (c_X0_tire l dC dI cI cT L Y P S T R yd wd pc tc v2 (tm + (1 : Int32)) (upd ya (Int32.toNatClampNeg v2) ((ya (Int32.toNatClampNeg v2)) + (r6 + v3))) pa sa ta tr LP tk tf th bl r9 (by have zl_0 : (0 : Int32).toInt = 0 := (by decide); have zl_1 : (1 : Int32).toInt = 1 := (by decide); have p_h_v1 := vp_to h_v1; have p_h_v2 := vp_to h_v2; have q_c17 : ¬ Int32.toInt r1 = Int32.toInt (0 : Int32) := fun h => c17 (Int32.toInt_inj.mp h); omega) _) (cwV 2 ht (gV wm_447 wm_448 wm_449 wm_14 wm_450) rfl rfl rfl dv_X0_tire ⟨Nat.le_of_ble_eq_true rfl, Nat.le_of_ble_eq_true rfl⟩) (preV hK hNS hP hD (va_recv hK hP (ci := 0) (q0 := 0) rfl rfl)) rfl rfl hl.1 rfl (lv_room (Nat.le_of_ble_eq_true rfl)) dX0_play_85 ⟨Nat.le_of_ble_eq_true rfl, Nat.le_of_ble_eq_true rfl⟩) hP hD hS hA (fun u12 H locs e12 hP hD hS => ?_)
    rw [e12, lt1_def] at hF
    have hP : va_P (dC, dI) vwCl (W_lane cI cT L Y P S T R yd wd pc tc v2 (tm + (1 : Int32)) (upd ya (Int32.toNatClampNeg v2) ((ya (Int32.toNatClampNeg v2)) + (r6 + v3))) pa sa u12 tr ++ va_pl LP (tg tk tf th)) H := hP
    have hD : va_D A (W_lane cI cT L Y P S T R yd wd pc tc v2 (tm + (1 : Int32)) (upd ya (Int32.toNatClampNeg v2) ((ya (Int32.toNatClampNeg v2)) + (r6 + v3))) pa sa u12 tr ++ va_pl LP (tg tk tf th)) := hD
    refine lv_iload hx hb dX0_play_88 (lv_at hl 0 rfl) ?_
    exact hret r1 (v2, (tm + (1 : Int32)), (upd ya (Int32.toNatClampNeg v2) ((ya (Int32.toNatClampNeg v2)) + (r6 + v3))), u12) _ _ _ _ ⟨hF.symm, ze1, by have zl_0 : (0 : Int32).toInt = 0 := (by decide); have zl_1 : (1 : Int32).toInt = 1 := (by decide); have p_h_v1 := vp_to h_v1; have p_h_v2 := vp_to h_v2; have q_c17 : ¬ Int32.toInt r1 = Int32.toInt (0 : Int32) := fun h => c17 (Int32.toInt_inj.mp h); (try dsimp only); omega⟩ (nb ze1) hP hD hS dX0_play_90
