def f_X3_air (tk : Nat → Int32) (th : Nat → Int32) (aT : Nat) : Int32 := (if (2 : Int32) ≤ (th aT) then (if (tk aT) = (1 : Int32) then ((th aT) / (2 : Int32)) else (if (tk aT) = (2 : Int32) then ((th aT) + (1 : Int32)) else (if (tk aT) = (3 : Int32) then (((th aT) / (2 : Int32)) + (1 : Int32)) else (if (tk aT) = (4 : Int32) then ((th aT) + (1 : Int32)) else (th aT))))) else (if (tk aT) = (1 : Int32) then (1 : Int32) else (if (tk aT) = (2 : Int32) then ((th aT) + (1 : Int32)) else (if (tk aT) = (3 : Int32) then ((1 : Int32) + (1 : Int32)) else (if (tk aT) = (4 : Int32) then ((th aT) + (1 : Int32)) else (th aT))))))
abbrev rm_X3_air : Room := { frames := 0, cells := 0, slots := 0, locals := 0 }
noncomputable abbrev wd_X3_air : List Cond := .code yX3_air cX3_air 2 (some .int) :: wsL_law
set_option maxHeartbeats 4000000 in
set_option maxRecDepth 100000 in
theorem c_X3_air (l : Launch) (dC : Nat → ClassId) (dI : Nat → Nat → Nat) (cI cT : ClassId) (LP : List Nat) (tk tf th : Nat → Int32) (aT : Nat) (haT : aT ∈ LP) : CtI l (dC, dI) cI cT yX3_air wd_X3_air rm_X3_air [.ref aT] (([] : va_W) ++ va_pl LP (tg tk tf th)) (fun (r : Int32) (_ : Unit) => f_X3_air tk th aT = r) (fun _ => ([] : va_W) ++ va_pl LP (tg tk tf th)) 0 0 := by
  refine ct_i (cc := cX3_air) (maxL := 2) (by decide) rfl (Nat.le_of_ble_eq_true rfl) ?_
  intro p e s m args below meth c A ls Q hx hb hml hts hown hmn hA hK hNS hP hD hS hl hret
  have ht : ∀ w ∈ wsL_law, w.before args s = true := fun w h => hts w (List.mem_cons_of_mem _ h)
  have hl : lv_has ls 2 [(0, .ref aT)] := hl
  generalize hF : f_X3_air tk th aT = F at hret
  unfold f_X3_air at hF
  refine lv_aload_n hx hb dX3_air_0 rfl (lv_at hl 0 rfl) ?_
  obtain ⟨kp1, hk2⟩ := va_pl_get (X := ([] : va_W)) (f := tg tk tf th) haT
  refine gf_X3_2 (v := .int (th aT)) hx hb ht hown hK hP kp1 hk2 (ht _ wm_53) rfl dX3_air_1 ?_
  refine lv_iconst (v := (2 : Int32)) hx hb dX3_air_4 (by decide) ?_
  refine lv_icmp_ge (tgt := 12) hx hb dX3_air_5 (by decide) (fun c5 => ?_) (fun c5 => ?_)
  · rw [if_pos c5] at hF
    refine lv_aload_n hx hb dX3_air_12 rfl (lv_at hl 0 rfl) ?_
    obtain ⟨kp3, hk4⟩ := va_pl_get (X := ([] : va_W)) (f := tg tk tf th) haT
    refine gf_X3_2 (v := .int (th aT)) hx hb ht hown hK hP kp3 hk4 (ht _ wm_53) rfl dX3_air_13 ?_
    refine lv_iconst (v := (2 : Int32)) hx hb dX3_air_16 (by decide) ?_
    refine lv_idiv hx hb dX3_air_17 (by decide) ?_
    refine lv_istore_n (lv' := [(1, .int ((th aT) / (2 : Int32))), (0, .ref aT)]) hx hb dX3_air_18 rfl hl (by decide) rfl (fun ls hl => ?_)
    refine lv_aload_n hx hb dX3_air_19 rfl (lv_at hl 1 rfl) ?_
    obtain ⟨kp5, hk6⟩ := va_pl_get (X := ([] : va_W)) (f := tg tk tf th) haT
    refine gf_X3_0 (v := .int (tk aT)) hx hb ht hown hK hP kp5 hk6 (ht _ wm_51) rfl dX3_air_20 ?_
    by_cases w7 : (tk aT) = (1 : Int32)
    · rw [if_pos w7] at hF
      refine lv_tableIn (tgt := 52) hx hb dX3_air_23 (by rw [w7]; decide) (by rw [w7]; decide) (by rw [w7]; rfl) (by decide) ?_
      refine lv_iload_n hx hb dX3_air_52 rfl (lv_at hl 0 rfl) ?_
      exact hret ((th aT) / (2 : Int32)) () _ _ _ _ hF.symm rfl hP hD hS dX3_air_53
    · rw [if_neg w7] at hF
      by_cases w8 : (tk aT) = (2 : Int32)
      · rw [if_pos w8] at hF
        refine lv_tableIn (tgt := 58) hx hb dX3_air_23 (by rw [w8]; decide) (by rw [w8]; decide) (by rw [w8]; rfl) (by decide) ?_
        refine lv_aload_n hx hb dX3_air_58 rfl (lv_at hl 1 rfl) ?_
        obtain ⟨kp9, hk10⟩ := va_pl_get (X := ([] : va_W)) (f := tg tk tf th) haT
        refine gf_X3_2 (v := .int (th aT)) hx hb ht hown hK hP kp9 hk10 (ht _ wm_53) rfl dX3_air_59 ?_
        refine lv_iconst (v := (1 : Int32)) hx hb dX3_air_62 (by decide) ?_
        refine lv_iadd hx hb dX3_air_63 ?_
        exact hret ((th aT) + (1 : Int32)) () _ _ _ _ hF.symm rfl hP hD hS dX3_air_64
      · rw [if_neg w8] at hF
        by_cases w11 : (tk aT) = (3 : Int32)
        · rw [if_pos w11] at hF
          refine lv_tableIn (tgt := 54) hx hb dX3_air_23 (by rw [w11]; decide) (by rw [w11]; decide) (by rw [w11]; rfl) (by decide) ?_
          refine lv_iload_n hx hb dX3_air_54 rfl (lv_at hl 0 rfl) ?_
          refine lv_iconst (v := (1 : Int32)) hx hb dX3_air_55 (by decide) ?_
          refine lv_iadd hx hb dX3_air_56 ?_
          exact hret (((th aT) / (2 : Int32)) + (1 : Int32)) () _ _ _ _ hF.symm rfl hP hD hS dX3_air_57
        · rw [if_neg w11] at hF
          by_cases w12 : (tk aT) = (4 : Int32)
          · rw [if_pos w12] at hF
            refine lv_tableIn (tgt := 58) hx hb dX3_air_23 (by rw [w12]; decide) (by rw [w12]; decide) (by rw [w12]; rfl) (by decide) ?_
            refine lv_aload_n hx hb dX3_air_58 rfl (lv_at hl 1 rfl) ?_
            obtain ⟨kp13, hk14⟩ := va_pl_get (X := ([] : va_W)) (f := tg tk tf th) haT
            refine gf_X3_2 (v := .int (th aT)) hx hb ht hown hK hP kp13 hk14 (ht _ wm_53) rfl dX3_air_59 ?_
            refine lv_iconst (v := (1 : Int32)) hx hb dX3_air_62 (by decide) ?_
            refine lv_iadd hx hb dX3_air_63 ?_
            exact hret ((th aT) + (1 : Int32)) () _ _ _ _ hF.symm rfl hP hD hS dX3_air_64
          · rw [if_neg w12] at hF
            refine lv_tableOut (tgt := 65) hx hb dX3_air_23 (by have q_w7 := lv_neT w7 (a := 1) rfl; have q_w8 := lv_neT w8 (a := 2) rfl; have q_w11 := lv_neT w11 (a := 3) rfl; have q_w12 := lv_neT w12 (a := 4) rfl; omega) (by decide) ?_
            refine lv_aload_n hx hb dX3_air_65 rfl (lv_at hl 1 rfl) ?_
            obtain ⟨kp15, hk16⟩ := va_pl_get (X := ([] : va_W)) (f := tg tk tf th) haT
            refine gf_X3_2 (v := .int (th aT)) hx hb ht hown hK hP kp15 hk16 (ht _ wm_53) rfl dX3_air_66 ?_
            exact hret (th aT) () _ _ _ _ hF.symm rfl hP hD hS dX3_air_69
  · rw [if_neg c5] at hF
    refine lv_iconst (v := (1 : Int32)) hx hb dX3_air_8 (by decide) ?_
    refine lv_goto (tgt := 18) hx hb dX3_air_9 (by decide) ?_
    refine lv_istore_n (lv' := [(1, .int (1 : Int32)), (0, .ref aT)]) hx hb dX3_air_18 rfl hl (by decide) rfl (fun ls hl => ?_)
    refine lv_aload_n hx hb dX3_air_19 rfl (lv_at hl 1 rfl) ?_
    obtain ⟨kp17, hk18⟩ := va_pl_get (X := ([] : va_W)) (f := tg tk tf th) haT
    refine gf_X3_0 (v := .int (tk aT)) hx hb ht hown hK hP kp17 hk18 (ht _ wm_51) rfl dX3_air_20 ?_
    by_cases w19 : (tk aT) = (1 : Int32)
    · rw [if_pos w19] at hF
      refine lv_tableIn (tgt := 52) hx hb dX3_air_23 (by rw [w19]; decide) (by rw [w19]; decide) (by rw [w19]; rfl) (by decide) ?_
      refine lv_iload_n hx hb dX3_air_52 rfl (lv_at hl 0 rfl) ?_
      exact hret (1 : Int32) () _ _ _ _ hF.symm rfl hP hD hS dX3_air_53
    · rw [if_neg w19] at hF
      by_cases w20 : (tk aT) = (2 : Int32)
      · rw [if_pos w20] at hF
        refine lv_tableIn (tgt := 58) hx hb dX3_air_23 (by rw [w20]; decide) (by rw [w20]; decide) (by rw [w20]; rfl) (by decide) ?_
        refine lv_aload_n hx hb dX3_air_58 rfl (lv_at hl 1 rfl) ?_
        obtain ⟨kp21, hk22⟩ := va_pl_get (X := ([] : va_W)) (f := tg tk tf th) haT
        refine gf_X3_2 (v := .int (th aT)) hx hb ht hown hK hP kp21 hk22 (ht _ wm_53) rfl dX3_air_59 ?_
        refine lv_iconst (v := (1 : Int32)) hx hb dX3_air_62 (by decide) ?_
        refine lv_iadd hx hb dX3_air_63 ?_
        exact hret ((th aT) + (1 : Int32)) () _ _ _ _ hF.symm rfl hP hD hS dX3_air_64
      · rw [if_neg w20] at hF
        by_cases w23 : (tk aT) = (3 : Int32)
        · rw [if_pos w23] at hF
          refine lv_tableIn (tgt := 54) hx hb dX3_air_23 (by rw [w23]; decide) (by rw [w23]; decide) (by rw [w23]; rfl) (by decide) ?_
          refine lv_iload_n hx hb dX3_air_54 rfl (lv_at hl 0 rfl) ?_
          refine lv_iconst (v := (1 : Int32)) hx hb dX3_air_55 (by decide) ?_
          refine lv_iadd hx hb dX3_air_56 ?_
          exact hret ((1 : Int32) + (1 : Int32)) () _ _ _ _ hF.symm rfl hP hD hS dX3_air_57
        · rw [if_neg w23] at hF
          by_cases w24 : (tk aT) = (4 : Int32)
          · rw [if_pos w24] at hF
            refine lv_tableIn (tgt := 58) hx hb dX3_air_23 (by rw [w24]; decide) (by rw [w24]; decide) (by rw [w24]; rfl) (by decide) ?_
            refine lv_aload_n hx hb dX3_air_58 rfl (lv_at hl 1 rfl) ?_
            obtain ⟨kp25, hk26⟩ := va_pl_get (X := ([] : va_W)) (f := tg tk tf th) haT
            refine gf_X3_2 (v := .int (th aT)) hx hb ht hown hK hP kp25 hk26 (ht _ wm_53) rfl dX3_air_59 ?_
            refine lv_iconst (v := (1 : Int32)) hx hb dX3_air_62 (by decide) ?_
            refine lv_iadd hx hb dX3_air_63 ?_
            exact hret ((th aT) + (1 : Int32)) () _ _ _ _ hF.symm rfl hP hD hS dX3_air_64
          · rw [if_neg w24] at hF
            refine lv_tableOut (tgt := 65) hx hb dX3_air_23 (by have q_w19 := lv_neT w19 (a := 1) rfl; have q_w20 := lv_neT w20 (a := 2) rfl; have q_w23 := lv_neT w23 (a := 3) rfl; have q_w24 := lv_neT w24 (a := 4) rfl; omega) (by decide) ?_
            refine lv_aload_n hx hb dX3_air_65 rfl (lv_at hl 1 rfl) ?_
            obtain ⟨kp27, hk28⟩ := va_pl_get (X := ([] : va_W)) (f := tg tk tf th) haT
            refine gf_X3_2 (v := .int (th aT)) hx hb ht hown hK hP kp27 hk28 (ht _ wm_53) rfl dX3_air_66 ?_
            exact hret (th aT) () _ _ _ _ hF.symm rfl hP hD hS dX3_air_69
def f_X3_errorBy (tk : Nat → Int32) (tf : Nat → Int32) (th : Nat → Int32) (aT : Nat) (v1 : Int32) (v2 : Int32) (v3 : Int32) : Int32 := (if (0 : Int32) ≤ (((4 : Int32) + (v2 / (20 : Int32))) - (v1 / (2 : Int32))) then (if (tk aT) = (1 : Int32) then ((((4 : Int32) + (v2 / (20 : Int32))) - (v1 / (2 : Int32))) + (1 : Int32)) else (if (tk aT) = (2 : Int32) then ((((4 : Int32) + (v2 / (20 : Int32))) - (v1 / (2 : Int32))) + ((th aT) / (3 : Int32))) else (if (tk aT) = (3 : Int32) then (((((4 : Int32) + (v2 / (20 : Int32))) - (v1 / (2 : Int32))) + (1 : Int32)) / (2 : Int32)) else (if (tk aT) = (4 : Int32) then (((((4 : Int32) + (v2 / (20 : Int32))) - (v1 / (2 : Int32))) + ((th aT) / (3 : Int32))) + ((tf aT) / (4 : Int32))) else (if (tk aT) = (5 : Int32) then (if v3 = (0 : Int32) then (((4 : Int32) + (v2 / (20 : Int32))) - (v1 / (2 : Int32))) else ((((4 : Int32) + (v2 / (20 : Int32))) - (v1 / (2 : Int32))) + (2 : Int32))) else (((4 : Int32) + (v2 / (20 : Int32))) - (v1 / (2 : Int32)))))))) else (if (tk aT) = (1 : Int32) then ((0 : Int32) + (1 : Int32)) else (if (tk aT) = (2 : Int32) then ((0 : Int32) + ((th aT) / (3 : Int32))) else (if (tk aT) = (3 : Int32) then (((0 : Int32) + (1 : Int32)) / (2 : Int32)) else (if (tk aT) = (4 : Int32) then (((0 : Int32) + ((th aT) / (3 : Int32))) + ((tf aT) / (4 : Int32))) else (if (tk aT) = (5 : Int32) then (if v3 = (0 : Int32) then (0 : Int32) else ((0 : Int32) + (2 : Int32))) else (0 : Int32)))))))
abbrev rm_X3_errorBy : Room := { frames := 0, cells := 0, slots := 0, locals := 0 }
noncomputable abbrev wd_X3_errorBy : List Cond := .code yX3_errorBy cX3_errorBy 6 (some .int) :: wsL_law
set_option maxHeartbeats 4000000 in
set_option maxRecDepth 100000 in
theorem c_X3_errorBy (l : Launch) (dC : Nat → ClassId) (dI : Nat → Nat → Nat) (cI cT : ClassId) (LP : List Nat) (tk tf th : Nat → Int32) (aT : Nat) (v1 : Int32) (v2 : Int32) (v3 : Int32) (haT : aT ∈ LP) : CtI l (dC, dI) cI cT yX3_errorBy wd_X3_errorBy rm_X3_errorBy [.ref aT, .int v1, .int v2, .int v3] (([] : va_W) ++ va_pl LP (tg tk tf th)) (fun (r : Int32) (_ : Unit) => f_X3_errorBy tk tf th aT v1 v2 v3 = r) (fun _ => ([] : va_W) ++ va_pl LP (tg tk tf th)) 0 0 := by
  refine ct_i (cc := cX3_errorBy) (maxL := 6) (by decide) rfl (Nat.le_of_ble_eq_true rfl) ?_
  intro p e s m args below meth c A ls Q hx hb hml hts hown hmn hA hK hNS hP hD hS hl hret
  have ht : ∀ w ∈ wsL_law, w.before args s = true := fun w h => hts w (List.mem_cons_of_mem _ h)
  have hl : lv_has ls 6 [(0, .ref aT), (1, .int v1), (2, .int v2), (3, .int v3)] := hl
  generalize hF : f_X3_errorBy tk tf th aT v1 v2 v3 = F at hret
  unfold f_X3_errorBy at hF
  refine lv_iconst (v := (4 : Int32)) hx hb dX3_errorBy_0 (by decide) ?_
  refine lv_iload_n hx hb dX3_errorBy_1 rfl (lv_at hl 2 rfl) ?_
  refine lv_bipush (v := (20 : Int32)) hx hb dX3_errorBy_2 (by decide) ?_
  refine lv_idiv hx hb dX3_errorBy_4 (by decide) ?_
  refine lv_iadd hx hb dX3_errorBy_5 ?_
  refine lv_iload_n hx hb dX3_errorBy_6 rfl (lv_at hl 1 rfl) ?_
  refine lv_iconst (v := (2 : Int32)) hx hb dX3_errorBy_7 (by decide) ?_
  refine lv_idiv hx hb dX3_errorBy_8 (by decide) ?_
  refine lv_isub hx hb dX3_errorBy_9 ?_
  refine lv_istore (lv' := [(4, .int (((4 : Int32) + (v2 / (20 : Int32))) - (v1 / (2 : Int32)))), (0, .ref aT), (1, .int v1), (2, .int v2), (3, .int v3)]) hx hb dX3_errorBy_10 hl (by decide) rfl (fun ls hl => ?_)
  refine lv_iload hx hb dX3_errorBy_12 (lv_at hl 0 rfl) ?_
  refine lv_if_ge (tgt := 21) hx hb dX3_errorBy_14 (by decide) (fun c14 => ?_) (fun c14 => ?_)
  · rw [if_pos c14] at hF
    refine lv_iload hx hb dX3_errorBy_21 (lv_at hl 0 rfl) ?_
    refine lv_istore (lv' := [(5, .int (((4 : Int32) + (v2 / (20 : Int32))) - (v1 / (2 : Int32)))), (4, .int (((4 : Int32) + (v2 / (20 : Int32))) - (v1 / (2 : Int32)))), (0, .ref aT), (1, .int v1), (2, .int v2), (3, .int v3)]) hx hb dX3_errorBy_23 hl (by decide) rfl (fun ls hl => ?_)
    refine lv_aload_n hx hb dX3_errorBy_25 rfl (lv_at hl 2 rfl) ?_
    obtain ⟨kp1, hk2⟩ := va_pl_get (X := ([] : va_W)) (f := tg tk tf th) haT
    refine gf_X3_0 (v := .int (tk aT)) hx hb ht hown hK hP kp1 hk2 (ht _ wm_51) rfl dX3_errorBy_26 ?_
    by_cases w3 : (tk aT) = (1 : Int32)
    · rw [if_pos w3] at hF
      refine lv_tableIn (tgt := 64) hx hb dX3_errorBy_29 (by rw [w3]; decide) (by rw [w3]; decide) (by rw [w3]; rfl) (by decide) ?_
      refine lv_iload hx hb dX3_errorBy_64 (lv_at hl 0 rfl) ?_
      refine lv_iconst (v := (1 : Int32)) hx hb dX3_errorBy_66 (by decide) ?_
      refine lv_iadd hx hb dX3_errorBy_67 ?_
      exact hret ((((4 : Int32) + (v2 / (20 : Int32))) - (v1 / (2 : Int32))) + (1 : Int32)) () _ _ _ _ hF.symm rfl hP hD hS dX3_errorBy_68
    · rw [if_neg w3] at hF
      by_cases w4 : (tk aT) = (2 : Int32)
      · rw [if_pos w4] at hF
        refine lv_tableIn (tgt := 69) hx hb dX3_errorBy_29 (by rw [w4]; decide) (by rw [w4]; decide) (by rw [w4]; rfl) (by decide) ?_
        refine lv_iload hx hb dX3_errorBy_69 (lv_at hl 0 rfl) ?_
        refine lv_aload_n hx hb dX3_errorBy_71 rfl (lv_at hl 2 rfl) ?_
        obtain ⟨kp5, hk6⟩ := va_pl_get (X := ([] : va_W)) (f := tg tk tf th) haT
        refine gf_X3_2 (v := .int (th aT)) hx hb ht hown hK hP kp5 hk6 (ht _ wm_53) rfl dX3_errorBy_72 ?_
        refine lv_iconst (v := (3 : Int32)) hx hb dX3_errorBy_75 (by decide) ?_
        refine lv_idiv hx hb dX3_errorBy_76 (by decide) ?_
        refine lv_iadd hx hb dX3_errorBy_77 ?_
        exact hret ((((4 : Int32) + (v2 / (20 : Int32))) - (v1 / (2 : Int32))) + ((th aT) / (3 : Int32))) () _ _ _ _ hF.symm rfl hP hD hS dX3_errorBy_78
      · rw [if_neg w4] at hF
        by_cases w7 : (tk aT) = (3 : Int32)
        · rw [if_pos w7] at hF
          refine lv_tableIn (tgt := 79) hx hb dX3_errorBy_29 (by rw [w7]; decide) (by rw [w7]; decide) (by rw [w7]; rfl) (by decide) ?_
          refine lv_iload hx hb dX3_errorBy_79 (lv_at hl 0 rfl) ?_
          refine lv_iconst (v := (1 : Int32)) hx hb dX3_errorBy_81 (by decide) ?_
          refine lv_iadd hx hb dX3_errorBy_82 ?_
          refine lv_iconst (v := (2 : Int32)) hx hb dX3_errorBy_83 (by decide) ?_
          refine lv_idiv hx hb dX3_errorBy_84 (by decide) ?_
          exact hret (((((4 : Int32) + (v2 / (20 : Int32))) - (v1 / (2 : Int32))) + (1 : Int32)) / (2 : Int32)) () _ _ _ _ hF.symm rfl hP hD hS dX3_errorBy_85
        · rw [if_neg w7] at hF
          by_cases w8 : (tk aT) = (4 : Int32)
          · rw [if_pos w8] at hF
            refine lv_tableIn (tgt := 86) hx hb dX3_errorBy_29 (by rw [w8]; decide) (by rw [w8]; decide) (by rw [w8]; rfl) (by decide) ?_
            refine lv_iload hx hb dX3_errorBy_86 (lv_at hl 0 rfl) ?_
            refine lv_aload_n hx hb dX3_errorBy_88 rfl (lv_at hl 2 rfl) ?_
            obtain ⟨kp9, hk10⟩ := va_pl_get (X := ([] : va_W)) (f := tg tk tf th) haT
            refine gf_X3_2 (v := .int (th aT)) hx hb ht hown hK hP kp9 hk10 (ht _ wm_53) rfl dX3_errorBy_89 ?_
            refine lv_iconst (v := (3 : Int32)) hx hb dX3_errorBy_92 (by decide) ?_
            refine lv_idiv hx hb dX3_errorBy_93 (by decide) ?_
            refine lv_iadd hx hb dX3_errorBy_94 ?_
            refine lv_aload_n hx hb dX3_errorBy_95 rfl (lv_at hl 2 rfl) ?_
            obtain ⟨kp11, hk12⟩ := va_pl_get (X := ([] : va_W)) (f := tg tk tf th) haT
            refine gf_X3_1 (v := .int (tf aT)) hx hb ht hown hK hP kp11 hk12 (ht _ wm_52) rfl dX3_errorBy_96 ?_
            refine lv_iconst (v := (4 : Int32)) hx hb dX3_errorBy_99 (by decide) ?_
            refine lv_idiv hx hb dX3_errorBy_100 (by decide) ?_
            refine lv_iadd hx hb dX3_errorBy_101 ?_
            exact hret (((((4 : Int32) + (v2 / (20 : Int32))) - (v1 / (2 : Int32))) + ((th aT) / (3 : Int32))) + ((tf aT) / (4 : Int32))) () _ _ _ _ hF.symm rfl hP hD hS dX3_errorBy_102
          · rw [if_neg w8] at hF
            by_cases w13 : (tk aT) = (5 : Int32)
            · rw [if_pos w13] at hF
              refine lv_tableIn (tgt := 103) hx hb dX3_errorBy_29 (by rw [w13]; decide) (by rw [w13]; decide) (by rw [w13]; rfl) (by decide) ?_
              refine lv_iload_n hx hb dX3_errorBy_103 rfl (lv_at hl 5 rfl) ?_
              refine lv_if_eq (tgt := 114) hx hb dX3_errorBy_104 (by decide) (fun c104 => ?_) (fun c104 => ?_)
              · rw [if_pos c104] at hF
                refine lv_iload hx hb dX3_errorBy_114 (lv_at hl 0 rfl) ?_
                exact hret (((4 : Int32) + (v2 / (20 : Int32))) - (v1 / (2 : Int32))) () _ _ _ _ hF.symm rfl hP hD hS dX3_errorBy_116
              · rw [if_neg c104] at hF
                refine lv_iload hx hb dX3_errorBy_107 (lv_at hl 0 rfl) ?_
                refine lv_iconst (v := (2 : Int32)) hx hb dX3_errorBy_109 (by decide) ?_
                refine lv_iadd hx hb dX3_errorBy_110 ?_
                refine lv_goto (tgt := 116) hx hb dX3_errorBy_111 (by decide) ?_
                exact hret ((((4 : Int32) + (v2 / (20 : Int32))) - (v1 / (2 : Int32))) + (2 : Int32)) () _ _ _ _ hF.symm rfl hP hD hS dX3_errorBy_116
            · rw [if_neg w13] at hF
              refine lv_tableOut (tgt := 117) hx hb dX3_errorBy_29 (by have q_w3 := lv_neT w3 (a := 1) rfl; have q_w4 := lv_neT w4 (a := 2) rfl; have q_w7 := lv_neT w7 (a := 3) rfl; have q_w8 := lv_neT w8 (a := 4) rfl; have q_w13 := lv_neT w13 (a := 5) rfl; omega) (by decide) ?_
              refine lv_iload hx hb dX3_errorBy_117 (lv_at hl 0 rfl) ?_
              exact hret (((4 : Int32) + (v2 / (20 : Int32))) - (v1 / (2 : Int32))) () _ _ _ _ hF.symm rfl hP hD hS dX3_errorBy_119
  · rw [if_neg c14] at hF
    refine lv_iconst (v := (0 : Int32)) hx hb dX3_errorBy_17 (by decide) ?_
    refine lv_goto (tgt := 23) hx hb dX3_errorBy_18 (by decide) ?_
    refine lv_istore (lv' := [(5, .int (0 : Int32)), (4, .int (((4 : Int32) + (v2 / (20 : Int32))) - (v1 / (2 : Int32)))), (0, .ref aT), (1, .int v1), (2, .int v2), (3, .int v3)]) hx hb dX3_errorBy_23 hl (by decide) rfl (fun ls hl => ?_)
    refine lv_aload_n hx hb dX3_errorBy_25 rfl (lv_at hl 2 rfl) ?_
    obtain ⟨kp14, hk15⟩ := va_pl_get (X := ([] : va_W)) (f := tg tk tf th) haT
    refine gf_X3_0 (v := .int (tk aT)) hx hb ht hown hK hP kp14 hk15 (ht _ wm_51) rfl dX3_errorBy_26 ?_
    by_cases w16 : (tk aT) = (1 : Int32)
    · rw [if_pos w16] at hF
      refine lv_tableIn (tgt := 64) hx hb dX3_errorBy_29 (by rw [w16]; decide) (by rw [w16]; decide) (by rw [w16]; rfl) (by decide) ?_
      refine lv_iload hx hb dX3_errorBy_64 (lv_at hl 0 rfl) ?_
      refine lv_iconst (v := (1 : Int32)) hx hb dX3_errorBy_66 (by decide) ?_
      refine lv_iadd hx hb dX3_errorBy_67 ?_
      exact hret ((0 : Int32) + (1 : Int32)) () _ _ _ _ hF.symm rfl hP hD hS dX3_errorBy_68
    · rw [if_neg w16] at hF
      by_cases w17 : (tk aT) = (2 : Int32)
      · rw [if_pos w17] at hF
        refine lv_tableIn (tgt := 69) hx hb dX3_errorBy_29 (by rw [w17]; decide) (by rw [w17]; decide) (by rw [w17]; rfl) (by decide) ?_
        refine lv_iload hx hb dX3_errorBy_69 (lv_at hl 0 rfl) ?_
        refine lv_aload_n hx hb dX3_errorBy_71 rfl (lv_at hl 2 rfl) ?_
        obtain ⟨kp18, hk19⟩ := va_pl_get (X := ([] : va_W)) (f := tg tk tf th) haT
        refine gf_X3_2 (v := .int (th aT)) hx hb ht hown hK hP kp18 hk19 (ht _ wm_53) rfl dX3_errorBy_72 ?_
        refine lv_iconst (v := (3 : Int32)) hx hb dX3_errorBy_75 (by decide) ?_
        refine lv_idiv hx hb dX3_errorBy_76 (by decide) ?_
        refine lv_iadd hx hb dX3_errorBy_77 ?_
        exact hret ((0 : Int32) + ((th aT) / (3 : Int32))) () _ _ _ _ hF.symm rfl hP hD hS dX3_errorBy_78
      · rw [if_neg w17] at hF
        by_cases w20 : (tk aT) = (3 : Int32)
        · rw [if_pos w20] at hF
          refine lv_tableIn (tgt := 79) hx hb dX3_errorBy_29 (by rw [w20]; decide) (by rw [w20]; decide) (by rw [w20]; rfl) (by decide) ?_
          refine lv_iload hx hb dX3_errorBy_79 (lv_at hl 0 rfl) ?_
          refine lv_iconst (v := (1 : Int32)) hx hb dX3_errorBy_81 (by decide) ?_
          refine lv_iadd hx hb dX3_errorBy_82 ?_
          refine lv_iconst (v := (2 : Int32)) hx hb dX3_errorBy_83 (by decide) ?_
          refine lv_idiv hx hb dX3_errorBy_84 (by decide) ?_
          exact hret (((0 : Int32) + (1 : Int32)) / (2 : Int32)) () _ _ _ _ hF.symm rfl hP hD hS dX3_errorBy_85
        · rw [if_neg w20] at hF
          by_cases w21 : (tk aT) = (4 : Int32)
          · rw [if_pos w21] at hF
            refine lv_tableIn (tgt := 86) hx hb dX3_errorBy_29 (by rw [w21]; decide) (by rw [w21]; decide) (by rw [w21]; rfl) (by decide) ?_
            refine lv_iload hx hb dX3_errorBy_86 (lv_at hl 0 rfl) ?_
            refine lv_aload_n hx hb dX3_errorBy_88 rfl (lv_at hl 2 rfl) ?_
            obtain ⟨kp22, hk23⟩ := va_pl_get (X := ([] : va_W)) (f := tg tk tf th) haT
            refine gf_X3_2 (v := .int (th aT)) hx hb ht hown hK hP kp22 hk23 (ht _ wm_53) rfl dX3_errorBy_89 ?_
            refine lv_iconst (v := (3 : Int32)) hx hb dX3_errorBy_92 (by decide) ?_
            refine lv_idiv hx hb dX3_errorBy_93 (by decide) ?_
            refine lv_iadd hx hb dX3_errorBy_94 ?_
            refine lv_aload_n hx hb dX3_errorBy_95 rfl (lv_at hl 2 rfl) ?_
            obtain ⟨kp24, hk25⟩ := va_pl_get (X := ([] : va_W)) (f := tg tk tf th) haT
            refine gf_X3_1 (v := .int (tf aT)) hx hb ht hown hK hP kp24 hk25 (ht _ wm_52) rfl dX3_errorBy_96 ?_
            refine lv_iconst (v := (4 : Int32)) hx hb dX3_errorBy_99 (by decide) ?_
            refine lv_idiv hx hb dX3_errorBy_100 (by decide) ?_
            refine lv_iadd hx hb dX3_errorBy_101 ?_
            exact hret (((0 : Int32) + ((th aT) / (3 : Int32))) + ((tf aT) / (4 : Int32))) () _ _ _ _ hF.symm rfl hP hD hS dX3_errorBy_102
          · rw [if_neg w21] at hF
            by_cases w26 : (tk aT) = (5 : Int32)
            · rw [if_pos w26] at hF
              refine lv_tableIn (tgt := 103) hx hb dX3_errorBy_29 (by rw [w26]; decide) (by rw [w26]; decide) (by rw [w26]; rfl) (by decide) ?_
              refine lv_iload_n hx hb dX3_errorBy_103 rfl (lv_at hl 5 rfl) ?_
              refine lv_if_eq (tgt := 114) hx hb dX3_errorBy_104 (by decide) (fun c104 => ?_) (fun c104 => ?_)
              · rw [if_pos c104] at hF
                refine lv_iload hx hb dX3_errorBy_114 (lv_at hl 0 rfl) ?_
                exact hret (0 : Int32) () _ _ _ _ hF.symm rfl hP hD hS dX3_errorBy_116
              · rw [if_neg c104] at hF
                refine lv_iload hx hb dX3_errorBy_107 (lv_at hl 0 rfl) ?_
                refine lv_iconst (v := (2 : Int32)) hx hb dX3_errorBy_109 (by decide) ?_
                refine lv_iadd hx hb dX3_errorBy_110 ?_
                refine lv_goto (tgt := 116) hx hb dX3_errorBy_111 (by decide) ?_
                exact hret ((0 : Int32) + (2 : Int32)) () _ _ _ _ hF.symm rfl hP hD hS dX3_errorBy_116
            · rw [if_neg w26] at hF
              refine lv_tableOut (tgt := 117) hx hb dX3_errorBy_29 (by have q_w16 := lv_neT w16 (a := 1) rfl; have q_w17 := lv_neT w17 (a := 2) rfl; have q_w20 := lv_neT w20 (a := 3) rfl; have q_w21 := lv_neT w21 (a := 4) rfl; have q_w26 := lv_neT w26 (a := 5) rfl; omega) (by decide) ?_
              refine lv_iload hx hb dX3_errorBy_117 (lv_at hl 0 rfl) ?_
              exact hret (0 : Int32) () _ _ _ _ hF.symm rfl hP hD hS dX3_errorBy_119
def f_X3_drift (tk : Nat → Int32) (tf : Nat → Int32) (th : Nat → Int32) (aT : Nat) (v1 : Int32) : Int32 := (lt1 (f_X3_air tk th aT) (fun r1 => (if (tk aT) = (1 : Int32) then (0 : Int32) else (if (tk aT) = (2 : Int32) then ((2 : Int32) * ((v1 * r1) / (4 : Int32))) else (if (tk aT) = (3 : Int32) then (0 : Int32) else (if (tk aT) = (4 : Int32) then (if ((tf aT) - (tf aT) / (2 : Int32) * (2 : Int32)) = (1 : Int32) then (((2 : Int32) * ((v1 * r1) / (4 : Int32))) + (1 : Int32)) else (((2 : Int32) * ((v1 * r1) / (4 : Int32))) + (-1 : Int32))) else (if (tk aT) = (5 : Int32) then (((v1 * r1) / (4 : Int32)) / (2 : Int32)) else ((v1 * r1) / (4 : Int32)))))))))
abbrev rm_X3_drift : Room := { frames := 1, cells := 0, slots := 0, locals := 21 }
noncomputable abbrev wd_X3_drift : List Cond := .code yX3_drift cX3_drift 3 (some .int) :: wsL_law
set_option maxHeartbeats 4000000 in
set_option maxRecDepth 100000 in
theorem c_X3_drift (l : Launch) (dC : Nat → ClassId) (dI : Nat → Nat → Nat) (cI cT : ClassId) (LP : List Nat) (tk tf th : Nat → Int32) (aT : Nat) (v1 : Int32) (haT : aT ∈ LP) : CtI l (dC, dI) cI cT yX3_drift wd_X3_drift rm_X3_drift [.ref aT, .int v1] (([] : va_W) ++ va_pl LP (tg tk tf th)) (fun (r : Int32) (_ : Unit) => f_X3_drift tk tf th aT v1 = r) (fun _ => ([] : va_W) ++ va_pl LP (tg tk tf th)) 0 0 := by
  refine ct_i (cc := cX3_drift) (maxL := 3) (by decide) rfl (Nat.le_of_ble_eq_true rfl) ?_
  intro p e s m args below meth c A ls Q hx hb hml hts hown hmn hA hK hNS hP hD hS hl hret
  have ht : ∀ w ∈ wsL_law, w.before args s = true := fun w h => hts w (List.mem_cons_of_mem _ h)
  have hl : lv_has ls 3 [(0, .ref aT), (1, .int v1)] := hl
  generalize hF : f_X3_drift tk tf th aT v1 = F at hret
  unfold f_X3_drift at hF
  refine lv_iload_n hx hb dX3_drift_0 rfl (lv_at hl 1 rfl) ?_
  refine lv_aload_n hx hb dX3_drift_1 rfl (lv_at hl 0 rfl) ?_
  obtain ⟨kp2, hk3⟩ := va_pl_get (X := ([] : va_W)) (f := tg tk tf th) haT
  refine kcF_i (rx := fun (_ : Unit) => ([] : va_W)) (pl1 := fun _ => va_pl LP (tg tk tf th)) (va_runV (As := []) (rest := [.int v1]) ⟨hx, hb, hml, hown, ht⟩ (c_X3_air l dC dI cI cT LP tk tf th aT haT _) (cwV 0 ht (gV wm_348 wm_342 wm_343 wm_47 wm_344) rfl rfl rfl dv_X3_air ⟨Nat.le_of_ble_eq_true rfl, Nat.le_of_ble_eq_true rfl⟩) (preV hK hNS hP hD (va_recv hK hP (ci := 3) (q0 := kp2) rfl hk3)) rfl rfl hl.1 rfl (lv_room (Nat.le_of_ble_eq_true rfl)) dX3_drift_2 ⟨Nat.le_of_ble_eq_true rfl, Nat.le_of_ble_eq_true rfl⟩) hP hD hS hA (fun r1 _ H locs e1 hP hD hS => ?_)
  rw [e1, lt1_def] at hF
  have hP : va_P (dC, dI) vwCl (([] : va_W) ++ va_pl LP (tg tk tf th)) H := hP
  have hD : va_D A (([] : va_W) ++ va_pl LP (tg tk tf th)) := hD
  refine lv_imul hx hb dX3_drift_5 ?_
  refine lv_iconst (v := (4 : Int32)) hx hb dX3_drift_6 (by decide) ?_
  refine lv_idiv hx hb dX3_drift_7 (by decide) ?_
  refine lv_istore_n (lv' := [(2, .int ((v1 * r1) / (4 : Int32))), (0, .ref aT), (1, .int v1)]) hx hb dX3_drift_8 rfl hl (by decide) rfl (fun ls hl => ?_)
  refine lv_aload_n hx hb dX3_drift_9 rfl (lv_at hl 1 rfl) ?_
  obtain ⟨kp4, hk5⟩ := va_pl_get (X := ([] : va_W)) (f := tg tk tf th) haT
  refine gf_X3_0 (v := .int (tk aT)) hx hb ht hown hK hP kp4 hk5 (ht _ wm_51) rfl dX3_drift_10 ?_
  by_cases w6 : (tk aT) = (1 : Int32)
  · rw [if_pos w6] at hF
    refine lv_tableIn (tgt := 48) hx hb dX3_drift_13 (by rw [w6]; decide) (by rw [w6]; decide) (by rw [w6]; rfl) (by decide) ?_
    refine lv_iconst (v := (0 : Int32)) hx hb dX3_drift_48 (by decide) ?_
    exact hret (0 : Int32) () _ _ _ _ hF.symm rfl hP hD hS dX3_drift_49
  · rw [if_neg w6] at hF
    by_cases w7 : (tk aT) = (2 : Int32)
    · rw [if_pos w7] at hF
      refine lv_tableIn (tgt := 50) hx hb dX3_drift_13 (by rw [w7]; decide) (by rw [w7]; decide) (by rw [w7]; rfl) (by decide) ?_
      refine lv_iconst (v := (2 : Int32)) hx hb dX3_drift_50 (by decide) ?_
      refine lv_iload_n hx hb dX3_drift_51 rfl (lv_at hl 0 rfl) ?_
      refine lv_imul hx hb dX3_drift_52 ?_
      exact hret ((2 : Int32) * ((v1 * r1) / (4 : Int32))) () _ _ _ _ hF.symm rfl hP hD hS dX3_drift_53
    · rw [if_neg w7] at hF
      by_cases w8 : (tk aT) = (3 : Int32)
      · rw [if_pos w8] at hF
        refine lv_tableIn (tgt := 48) hx hb dX3_drift_13 (by rw [w8]; decide) (by rw [w8]; decide) (by rw [w8]; rfl) (by decide) ?_
        refine lv_iconst (v := (0 : Int32)) hx hb dX3_drift_48 (by decide) ?_
        exact hret (0 : Int32) () _ _ _ _ hF.symm rfl hP hD hS dX3_drift_49
      · rw [if_neg w8] at hF
        by_cases w9 : (tk aT) = (4 : Int32)
        · rw [if_pos w9] at hF
          refine lv_tableIn (tgt := 54) hx hb dX3_drift_13 (by rw [w9]; decide) (by rw [w9]; decide) (by rw [w9]; rfl) (by decide) ?_
          refine lv_iconst (v := (2 : Int32)) hx hb dX3_drift_54 (by decide) ?_
          refine lv_iload_n hx hb dX3_drift_55 rfl (lv_at hl 0 rfl) ?_
          refine lv_imul hx hb dX3_drift_56 ?_
          refine lv_aload_n hx hb dX3_drift_57 rfl (lv_at hl 1 rfl) ?_
          obtain ⟨kp10, hk11⟩ := va_pl_get (X := ([] : va_W)) (f := tg tk tf th) haT
          refine gf_X3_1 (v := .int (tf aT)) hx hb ht hown hK hP kp10 hk11 (ht _ wm_52) rfl dX3_drift_58 ?_
          refine lv_iconst (v := (2 : Int32)) hx hb dX3_drift_61 (by decide) ?_
          refine lv_irem hx hb dX3_drift_62 (by decide) ?_
          refine lv_iconst (v := (1 : Int32)) hx hb dX3_drift_63 (by decide) ?_
          refine lv_icmp_ne (tgt := 71) hx hb dX3_drift_64 (by decide) (fun c64 => ?_) (fun c64 => ?_)
          · rw [if_neg c64] at hF
            refine lv_iconst (v := (-1 : Int32)) hx hb dX3_drift_71 (by decide) ?_
            refine lv_iadd hx hb dX3_drift_72 ?_
            exact hret (((2 : Int32) * ((v1 * r1) / (4 : Int32))) + (-1 : Int32)) () _ _ _ _ hF.symm rfl hP hD hS dX3_drift_73
          · rw [if_pos c64] at hF
            refine lv_iconst (v := (1 : Int32)) hx hb dX3_drift_67 (by decide) ?_
            refine lv_goto (tgt := 72) hx hb dX3_drift_68 (by decide) ?_
            refine lv_iadd hx hb dX3_drift_72 ?_
            exact hret (((2 : Int32) * ((v1 * r1) / (4 : Int32))) + (1 : Int32)) () _ _ _ _ hF.symm rfl hP hD hS dX3_drift_73
        · rw [if_neg w9] at hF
          by_cases w12 : (tk aT) = (5 : Int32)
          · rw [if_pos w12] at hF
            refine lv_tableIn (tgt := 74) hx hb dX3_drift_13 (by rw [w12]; decide) (by rw [w12]; decide) (by rw [w12]; rfl) (by decide) ?_
            refine lv_iload_n hx hb dX3_drift_74 rfl (lv_at hl 0 rfl) ?_
            refine lv_iconst (v := (2 : Int32)) hx hb dX3_drift_75 (by decide) ?_
            refine lv_idiv hx hb dX3_drift_76 (by decide) ?_
            exact hret (((v1 * r1) / (4 : Int32)) / (2 : Int32)) () _ _ _ _ hF.symm rfl hP hD hS dX3_drift_77
          · rw [if_neg w12] at hF
            refine lv_tableOut (tgt := 78) hx hb dX3_drift_13 (by have q_w6 := lv_neT w6 (a := 1) rfl; have q_w7 := lv_neT w7 (a := 2) rfl; have q_w8 := lv_neT w8 (a := 3) rfl; have q_w9 := lv_neT w9 (a := 4) rfl; have q_w12 := lv_neT w12 (a := 5) rfl; omega) (by decide) ?_
            refine lv_iload_n hx hb dX3_drift_78 rfl (lv_at hl 0 rfl) ?_
            exact hret ((v1 * r1) / (4 : Int32)) () _ _ _ _ hF.symm rfl hP hD hS dX3_drift_79
def f_X3_tires (tk : Nat → Int32) (tf : Nat → Int32) (aT : Nat) : Int32 := (if (tk aT) = (2 : Int32) then (2 : Int32) else (if (tk aT) = (3 : Int32) then (0 : Int32) else (if (tk aT) = (4 : Int32) then ((2 : Int32) + (tf aT)) else (1 : Int32))))
abbrev rm_X3_tires : Room := { frames := 0, cells := 0, slots := 0, locals := 0 }
noncomputable abbrev wd_X3_tires : List Cond := .code yX3_tires cX3_tires 1 (some .int) :: wsL_law
set_option maxHeartbeats 4000000 in
set_option maxRecDepth 100000 in
theorem c_X3_tires (l : Launch) (dC : Nat → ClassId) (dI : Nat → Nat → Nat) (cI cT : ClassId) (LP : List Nat) (tk tf th : Nat → Int32) (aT : Nat) (haT : aT ∈ LP) : CtI l (dC, dI) cI cT yX3_tires wd_X3_tires rm_X3_tires [.ref aT] (([] : va_W) ++ va_pl LP (tg tk tf th)) (fun (r : Int32) (_ : Unit) => f_X3_tires tk tf aT = r) (fun _ => ([] : va_W) ++ va_pl LP (tg tk tf th)) 0 0 := by
  refine ct_i (cc := cX3_tires) (maxL := 1) (by decide) rfl (Nat.le_of_ble_eq_true rfl) ?_
  intro p e s m args below meth c A ls Q hx hb hml hts hown hmn hA hK hNS hP hD hS hl hret
  have ht : ∀ w ∈ wsL_law, w.before args s = true := fun w h => hts w (List.mem_cons_of_mem _ h)
  have hl : lv_has ls 1 [(0, .ref aT)] := hl
  generalize hF : f_X3_tires tk tf aT = F at hret
  unfold f_X3_tires at hF
  refine lv_aload_n hx hb dX3_tires_0 rfl (lv_at hl 0 rfl) ?_
  obtain ⟨kp1, hk2⟩ := va_pl_get (X := ([] : va_W)) (f := tg tk tf th) haT
  refine gf_X3_0 (v := .int (tk aT)) hx hb ht hown hK hP kp1 hk2 (ht _ wm_51) rfl dX3_tires_1 ?_
  by_cases w3 : (tk aT) = (2 : Int32)
  · rw [if_pos w3] at hF
    refine lv_tableIn (tgt := 32) hx hb dX3_tires_4 (by rw [w3]; decide) (by rw [w3]; decide) (by rw [w3]; rfl) (by decide) ?_
    refine lv_iconst (v := (2 : Int32)) hx hb dX3_tires_32 (by decide) ?_
    exact hret (2 : Int32) () _ _ _ _ hF.symm rfl hP hD hS dX3_tires_33
  · rw [if_neg w3] at hF
    by_cases w4 : (tk aT) = (3 : Int32)
    · rw [if_pos w4] at hF
      refine lv_tableIn (tgt := 34) hx hb dX3_tires_4 (by rw [w4]; decide) (by rw [w4]; decide) (by rw [w4]; rfl) (by decide) ?_
      refine lv_iconst (v := (0 : Int32)) hx hb dX3_tires_34 (by decide) ?_
      exact hret (0 : Int32) () _ _ _ _ hF.symm rfl hP hD hS dX3_tires_35
    · rw [if_neg w4] at hF
      by_cases w5 : (tk aT) = (4 : Int32)
      · rw [if_pos w5] at hF
        refine lv_tableIn (tgt := 36) hx hb dX3_tires_4 (by rw [w5]; decide) (by rw [w5]; decide) (by rw [w5]; rfl) (by decide) ?_
        refine lv_iconst (v := (2 : Int32)) hx hb dX3_tires_36 (by decide) ?_
        refine lv_aload_n hx hb dX3_tires_37 rfl (lv_at hl 0 rfl) ?_
        obtain ⟨kp6, hk7⟩ := va_pl_get (X := ([] : va_W)) (f := tg tk tf th) haT
        refine gf_X3_1 (v := .int (tf aT)) hx hb ht hown hK hP kp6 hk7 (ht _ wm_52) rfl dX3_tires_38 ?_
        refine lv_iadd hx hb dX3_tires_41 ?_
        exact hret ((2 : Int32) + (tf aT)) () _ _ _ _ hF.symm rfl hP hD hS dX3_tires_42
      · rw [if_neg w5] at hF
        refine lv_tableOut (tgt := 43) hx hb dX3_tires_4 (by have q_w3 := lv_neT w3 (a := 2) rfl; have q_w4 := lv_neT w4 (a := 3) rfl; have q_w5 := lv_neT w5 (a := 4) rfl; omega) (by decide) ?_
        refine lv_iconst (v := (1 : Int32)) hx hb dX3_tires_43 (by decide) ?_
        exact hret (1 : Int32) () _ _ _ _ hF.symm rfl hP hD hS dX3_tires_44
