def f_X0_bestMove_L21 (yd : Int32) (wd : Int32) (pc : Int32) (tc : Int32) (bl : Int32) (ya : Nat → Int32) (pa : Nat → Int32) (sa : Nat → Int32) (ta : Nat → Int32) (tr : Nat → Option Nat) (tk : Nat → Int32) (tf : Nat → Int32) (th : Nat → Int32) (k_9 : Int32 → Int32 → Int32 → Int32 → Int32) : Nat → Int32 → Int32 → Int32 → Int32 → Int32 → Int32
  | 0, v1, v2, v3, v4, v5 => 0
  | n_21 + 1, v1, v2, v3, v4, v5 => (if pc ≤ v5 then (k_9 v1 v2 v3 (v4 + (1 : Int32))) else (lt1 (f_X0_waysHad yd wd ya pa sa ta tr tk tf th v4 bl v5) (fun r2101 => (lt1 (f_X0_ways sa ta tr tk tf th v4 bl v5) (fun r2102 => (if (r2101 * v3) ≤ (v2 * r2102) then (f_X0_bestMove_L21 yd wd pc tc bl ya pa sa ta tr tk tf th k_9 n_21 v1 v2 v3 v4 (v5 + (1 : Int32))) else (f_X0_bestMove_L21 yd wd pc tc bl ya pa sa ta tr tk tf th k_9 n_21 (((10 : Int32) * v4) + v5) r2101 r2102 v4 (v5 + (1 : Int32)))))))))
def f_X0_bestMove_L9 (yd : Int32) (wd : Int32) (pc : Int32) (tc : Int32) (bl : Int32) (ya : Nat → Int32) (pa : Nat → Int32) (sa : Nat → Int32) (ta : Nat → Int32) (tr : Nat → Option Nat) (tk : Nat → Int32) (tf : Nat → Int32) (th : Nat → Int32) : Nat → Int32 → Int32 → Int32 → Int32 → Int32
  | 0, v1, v2, v3, v4 => 0
  | n_9 + 1, v1, v2, v3, v4 => (if tc ≤ v4 then v1 else (f_X0_bestMove_L21 yd wd pc tc bl ya pa sa ta tr tk tf th (fun v1_ v2_ v3_ v4_ => f_X0_bestMove_L9 yd wd pc tc bl ya pa sa ta tr tk tf th n_9 v1_ v2_ v3_ v4_) 6 v1 v2 v3 v4 (0 : Int32)))
def f_X0_bestMove (yd : Int32) (wd : Int32) (pc : Int32) (tc : Int32) (bl : Int32) (ya : Nat → Int32) (pa : Nat → Int32) (sa : Nat → Int32) (ta : Nat → Int32) (tr : Nat → Option Nat) (tk : Nat → Int32) (tf : Nat → Int32) (th : Nat → Int32) : Int32 := (f_X0_bestMove_L9 yd wd pc tc bl ya pa sa ta tr tk tf th 7 (0 : Int32) (0 : Int32) (1 : Int32) (0 : Int32))
abbrev rm_X0_bestMove : Room := { frames := 3, cells := 0, slots := 0, locals := 76 }
noncomputable abbrev wd_X0_bestMove : List Cond := .code yX0_bestMove cX0_bestMove 8 (some .int) :: wsL_law
set_option maxHeartbeats 4000000 in
set_option maxRecDepth 100000 in
theorem c_X0_bestMove (l : Launch) (dC : Nat → ClassId) (dI : Nat → Nat → Nat) (cI cT : ClassId) (L : Nat) (Y : Nat) (P : Nat) (S : Nat) (T : Nat) (R : Nat) (yd : Int32) (wd : Int32) (pc : Int32) (tc : Int32) (bl : Int32) (tm : Int32) (ya : Nat → Int32) (pa : Nat → Int32) (sa : Nat → Int32) (ta : Nat → Int32) (tr : Nat → Option Nat) (LP : List Nat) (tk tf th : Nat → Int32) (hpc : 0 ≤ pc.toInt ∧ pc.toInt ≤ 5) (htc : 0 ≤ tc.toInt ∧ tc.toInt ≤ 6) (hbl : 0 ≤ bl.toInt ∧ bl.toInt < 5) (hT : ∀ i, i < 6 → tr i = some (tA tr i) ∧ tA tr i ∈ LP) : CtI l (dC, dI) cI cT yX0_bestMove wd_X0_bestMove rm_X0_bestMove [.ref L] (W_lane cI cT L Y P S T R yd wd pc tc bl tm ya pa sa ta tr ++ va_pl LP (tg tk tf th)) (fun (r : Int32) (_ : Unit) => f_X0_bestMove yd wd pc tc bl ya pa sa ta tr tk tf th = r ∧ (0 ≤ r.toInt ∧ r.toInt ≤ 54 ∧ r.toInt % 10 ≤ 4)) (fun _ => W_lane cI cT L Y P S T R yd wd pc tc bl tm ya pa sa ta tr ++ va_pl LP (tg tk tf th)) 0 0 := by
  refine ct_i (cc := cX0_bestMove) (maxL := 8) (by decide) rfl (Nat.le_of_ble_eq_true rfl) ?_
  intro p e s m args below meth c A ls Q hx hb hml hts hown hmn hA hK hNS hP hD hS hl hret
  have ht : ∀ w ∈ wsL_law, w.before args s = true := fun w h => hts w (List.mem_cons_of_mem _ h)
  have hl : lv_has ls 8 [(0, .ref L)] := hl
  generalize hF : f_X0_bestMove yd wd pc tc bl ya pa sa ta tr tk tf th = F at hret
  unfold f_X0_bestMove at hF
  have K_9 : ∀ (n_9 : Nat) (v1 : Int32) (v2 : Int32) (v3 : Int32) (v4 : Int32) (H : Heap) (locs : List Loc) (ls : Array Slot), (0 ≤ v4.toInt ∧ 0 ≤ v1.toInt ∧ v1.toInt ≤ 54 ∧ v1.toInt % 10 ≤ 4) → (tc.toInt - v4.toInt).toNat < n_9 → lv_has ls 8 [(0, .ref L), (1, .int v1), (2, .int v2), (3, .int v3), (4, .int v4)] → va_P (dC, dI) vwCl (W_lane cI cT L Y P S T R yd wd pc tc bl tm ya pa sa ta tr ++ va_pl LP (tg tk tf th)) H → va_D A (W_lane cI cT L Y P S T R yd wd pc tc bl tm ya pa sa ta tr ++ va_pl LP (tg tk tf th)) → va_S A s.heap H locs → f_X0_bestMove_L9 yd wd pc tc bl ya pa sa ta tr tk tf th n_9 v1 v2 v3 v4 = F → W p l e rm_X0_bestMove s m args below meth c H locs 0 0 Q (F0 m 9 ls []) := by
    intro n_9
    induction n_9 with
    | zero => intro v1 v2 v3 v4 H locs ls hinv_9 hms; exact absurd hms (Nat.not_lt_zero _)
    | succ n_9 ih_9 =>
      intro v1 v2 v3 v4 H locs ls hinv_9 hms_9 hl hP hD hS hF
      have K_21 : ∀ (n_21 : Nat) (v1 : Int32) (v2 : Int32) (v3 : Int32) (v4 : Int32) (v5 : Int32) (H : Heap) (locs : List Loc) (ls : Array Slot), ((0 ≤ v4.toInt ∧ v4.toInt < tc.toInt ∧ (tc.toInt - v4.toInt).toNat < n_9 + 1) ∧ 0 ≤ v5.toInt ∧ (0 ≤ v1.toInt ∧ v1.toInt ≤ 54 ∧ v1.toInt % 10 ≤ 4)) → (pc.toInt - v5.toInt).toNat < n_21 → lv_has ls 8 [(0, .ref L), (1, .int v1), (2, .int v2), (3, .int v3), (4, .int v4), (5, .int v5)] → va_P (dC, dI) vwCl (W_lane cI cT L Y P S T R yd wd pc tc bl tm ya pa sa ta tr ++ va_pl LP (tg tk tf th)) H → va_D A (W_lane cI cT L Y P S T R yd wd pc tc bl tm ya pa sa ta tr ++ va_pl LP (tg tk tf th)) → va_S A s.heap H locs → f_X0_bestMove_L21 yd wd pc tc bl ya pa sa ta tr tk tf th (fun v1_ v2_ v3_ v4_ => f_X0_bestMove_L9 yd wd pc tc bl ya pa sa ta tr tk tf th n_9 v1_ v2_ v3_ v4_) n_21 v1 v2 v3 v4 v5 = F → W p l e rm_X0_bestMove s m args below meth c H locs 0 0 Q (F0 m 21 ls []) := by
        intro n_21
        induction n_21 with
        | zero => intro v1 v2 v3 v4 v5 H locs ls hinv_21 hms; exact absurd hms (Nat.not_lt_zero _)
        | succ n_21 ih_21 =>
          intro v1 v2 v3 v4 v5 H locs ls hinv_21 hms_21 hl hP hD hS hF
          rw [f_X0_bestMove_L21] at hF
          refine lv_iload hx hb dX0_bestMove_21 (lv_at hl 5 rfl) ?_
          refine lv_aload_n hx hb dX0_bestMove_23 rfl (lv_at hl 0 rfl) ?_
          refine gf_X0_2 (v := .int pc) hx hb ht hown hK hP 0 rfl (ht _ wm_36) rfl dX0_bestMove_24 ?_
          refine lv_icmp_ge (tgt := 90) hx hb dX0_bestMove_27 (by decide) (fun c27 => ?_) (fun c27 => ?_)
          · rw [if_pos c27] at hF
            refine lv_iinc (v := (v4 + (1 : Int32))) (lv' := [(4, .int (v4 + (1 : Int32))), (0, .ref L), (1, .int v1), (2, .int v2), (3, .int v3), (5, .int v5)]) hx hb dX0_bestMove_90 hl (k := 4) rfl (by rfl) (by decide) rfl (fun ls hl => ?_)
            refine lv_goto (tgt := 9) hx hb dX0_bestMove_93 (by decide) ?_
            exact ih_9 v1 v2 v3 (v4 + (1 : Int32)) _ _ _ (by have zl_0 : (1 : Int32).toInt = 1 := (by decide); have q_c27 := Int32.le_iff_toInt_le.mp c27; have zq1_ : (1 : Int32).toInt = 1 := rfl; have hi4_ := ta32 (x := v4) (y := (1 : Int32)) (by omega) (by omega); have hm4_ := mul10 (x := v4) (by omega); omega) (by have zl_0 : (1 : Int32).toInt = 1 := (by decide); have q_c27 := Int32.le_iff_toInt_le.mp c27; have zq1_ : (1 : Int32).toInt = 1 := rfl; have hi4_ := ta32 (x := v4) (y := (1 : Int32)) (by omega) (by omega); have hm4_ := mul10 (x := v4) (by omega); omega) (lv_sub hl [1, 2, 3, 4, 0] rfl) hP hD hS hF
          · rw [if_neg c27] at hF
            refine lv_aload_n hx hb dX0_bestMove_30 rfl (lv_at hl 0 rfl) ?_
            refine lv_iload hx hb dX0_bestMove_31 (lv_at hl 4 rfl) ?_
            refine lv_aload_n hx hb dX0_bestMove_33 rfl (lv_at hl 0 rfl) ?_
            refine gf_X0_4 (v := .int bl) hx hb ht hown hK hP 0 rfl (ht _ wm_38) rfl dX0_bestMove_34 ?_
            refine lv_iload hx hb dX0_bestMove_37 (lv_at hl 5 rfl) ?_
            refine kcF_i (rx := fun (_ : Unit) => W_lane cI cT L Y P S T R yd wd pc tc bl tm ya pa sa ta tr) (pl1 := fun _ => va_pl LP (tg tk tf th)) (va_runV (As := [.int v4, .int bl, .int v5]) (rest := []) ⟨hx, hb, hml, hown, ht⟩ (c_X0_waysHad l dC dI cI cT L Y P S T R yd wd pc tc bl tm ya pa sa ta tr LP tk tf th v4 bl v5 (vp_of (by have q_c27 := mt Int32.le_iff_toInt_le.mpr c27; have i_c27 := inc_nle c27; have zq1_ : (1 : Int32).toInt = 1 := rfl; have hi4_ := ta32 (x := v4) (y := (1 : Int32)) (by omega) (by omega); have hm4_ := mul10 (x := v4) (by omega); omega)) (vp_of (by have q_c27 := mt Int32.le_iff_toInt_le.mpr c27; have i_c27 := inc_nle c27; have zq1_ : (1 : Int32).toInt = 1 := rfl; have hi4_ := ta32 (x := v4) (y := (1 : Int32)) (by omega) (by omega); have hm4_ := mul10 (x := v4) (by omega); omega)) (vp_of (by have q_c27 := mt Int32.le_iff_toInt_le.mpr c27; have i_c27 := inc_nle c27; have zq1_ : (1 : Int32).toInt = 1 := rfl; have hi4_ := ta32 (x := v4) (y := (1 : Int32)) (by omega) (by omega); have hm4_ := mul10 (x := v4) (by omega); omega)) hT _) (cwV 3 ht (gV wm_525 wm_475 wm_476 wm_14 wm_477) rfl rfl rfl dv_X0_waysHad ⟨Nat.le_of_ble_eq_true rfl, Nat.le_of_ble_eq_true rfl⟩) (preV hK hNS hP hD (va_recv hK hP (ci := 0) (q0 := 0) rfl rfl)) rfl rfl hl.1 rfl (lv_room (Nat.le_of_ble_eq_true rfl)) dX0_bestMove_39 ⟨Nat.le_of_ble_eq_true rfl, Nat.le_of_ble_eq_true rfl⟩) hP hD hS hA (fun r2101 _ H locs e2101 hP hD hS => ?_)
            rw [e2101, lt1_def] at hF
            have hP : va_P (dC, dI) vwCl (W_lane cI cT L Y P S T R yd wd pc tc bl tm ya pa sa ta tr ++ va_pl LP (tg tk tf th)) H := hP
            have hD : va_D A (W_lane cI cT L Y P S T R yd wd pc tc bl tm ya pa sa ta tr ++ va_pl LP (tg tk tf th)) := hD
            refine lv_istore (lv' := [(6, .int r2101), (0, .ref L), (1, .int v1), (2, .int v2), (3, .int v3), (4, .int v4), (5, .int v5)]) hx hb dX0_bestMove_42 hl (by decide) rfl (fun ls hl => ?_)
            refine lv_aload_n hx hb dX0_bestMove_44 rfl (lv_at hl 1 rfl) ?_
            refine lv_iload hx hb dX0_bestMove_45 (lv_at hl 5 rfl) ?_
            refine lv_aload_n hx hb dX0_bestMove_47 rfl (lv_at hl 1 rfl) ?_
            refine gf_X0_4 (v := .int bl) hx hb ht hown hK hP 0 rfl (ht _ wm_38) rfl dX0_bestMove_48 ?_
            refine lv_iload hx hb dX0_bestMove_51 (lv_at hl 6 rfl) ?_
            refine kcF_i (rx := fun (_ : Unit) => W_lane cI cT L Y P S T R yd wd pc tc bl tm ya pa sa ta tr) (pl1 := fun _ => va_pl LP (tg tk tf th)) (va_runV (As := [.int v4, .int bl, .int v5]) (rest := []) ⟨hx, hb, hml, hown, ht⟩ (c_X0_ways l dC dI cI cT L Y P S T R yd wd pc tc bl tm ya pa sa ta tr LP tk tf th v4 bl v5 (vp_of (by have q_c27 := mt Int32.le_iff_toInt_le.mpr c27; have i_c27 := inc_nle c27; have zq1_ : (1 : Int32).toInt = 1 := rfl; have hi4_ := ta32 (x := v4) (y := (1 : Int32)) (by omega) (by omega); have hm4_ := mul10 (x := v4) (by omega); omega)) (vp_of (by have q_c27 := mt Int32.le_iff_toInt_le.mpr c27; have i_c27 := inc_nle c27; have zq1_ : (1 : Int32).toInt = 1 := rfl; have hi4_ := ta32 (x := v4) (y := (1 : Int32)) (by omega) (by omega); have hm4_ := mul10 (x := v4) (by omega); omega)) hT _) (cwV 3 ht (gV wm_526 wm_479 wm_480 wm_14 wm_481) rfl rfl rfl dv_X0_ways ⟨Nat.le_of_ble_eq_true rfl, Nat.le_of_ble_eq_true rfl⟩) (preV hK hNS hP hD (va_recv hK hP (ci := 0) (q0 := 0) rfl rfl)) rfl rfl hl.1 rfl (lv_room (Nat.le_of_ble_eq_true rfl)) dX0_bestMove_53 ⟨Nat.le_of_ble_eq_true rfl, Nat.le_of_ble_eq_true rfl⟩) hP hD hS hA (fun r2102 _ H locs e2102 hP hD hS => ?_)
            rw [e2102, lt1_def] at hF
            have hP : va_P (dC, dI) vwCl (W_lane cI cT L Y P S T R yd wd pc tc bl tm ya pa sa ta tr ++ va_pl LP (tg tk tf th)) H := hP
            have hD : va_D A (W_lane cI cT L Y P S T R yd wd pc tc bl tm ya pa sa ta tr ++ va_pl LP (tg tk tf th)) := hD
            refine lv_istore (lv' := [(7, .int r2102), (6, .int r2101), (0, .ref L), (1, .int v1), (2, .int v2), (3, .int v3), (4, .int v4), (5, .int v5)]) hx hb dX0_bestMove_56 hl (by decide) rfl (fun ls hl => ?_)
            refine lv_iload hx hb dX0_bestMove_58 (lv_at hl 1 rfl) ?_
            refine lv_iload_n hx hb dX0_bestMove_60 rfl (lv_at hl 5 rfl) ?_
            refine lv_imul hx hb dX0_bestMove_61 ?_
            refine lv_iload_n hx hb dX0_bestMove_62 rfl (lv_at hl 4 rfl) ?_
            refine lv_iload hx hb dX0_bestMove_63 (lv_at hl 0 rfl) ?_
            refine lv_imul hx hb dX0_bestMove_65 ?_
            refine lv_icmp_le (tgt := 84) hx hb dX0_bestMove_66 (by decide) (fun c66 => ?_) (fun c66 => ?_)
            · rw [if_pos c66] at hF
              refine lv_iinc (v := (v5 + (1 : Int32))) (lv' := [(5, .int (v5 + (1 : Int32))), (7, .int r2102), (6, .int r2101), (0, .ref L), (1, .int v1), (2, .int v2), (3, .int v3), (4, .int v4)]) hx hb dX0_bestMove_84 hl (k := 7) rfl (by rfl) (by decide) rfl (fun ls hl => ?_)
              refine lv_goto (tgt := 21) hx hb dX0_bestMove_87 (by decide) ?_
              exact ih_21 v1 v2 v3 v4 (v5 + (1 : Int32)) _ _ _ (by have zl_0 : (1 : Int32).toInt = 1 := (by decide); have q_c27 := mt Int32.le_iff_toInt_le.mpr c27; have i_c27 := inc_nle c27; have q_c66 := Int32.le_iff_toInt_le.mp c66; have zq1_ : (1 : Int32).toInt = 1 := rfl; have hi4_ := ta32 (x := v4) (y := (1 : Int32)) (by omega) (by omega); have hm4_ := mul10 (x := v4) (by omega); first | omega | (have hb := ta32 (x := ((10 : Int32) * v4)) (y := v5) (by omega) (by omega); omega)) (by have zl_0 : (1 : Int32).toInt = 1 := (by decide); have q_c27 := mt Int32.le_iff_toInt_le.mpr c27; have i_c27 := inc_nle c27; have q_c66 := Int32.le_iff_toInt_le.mp c66; have zq1_ : (1 : Int32).toInt = 1 := rfl; have hi4_ := ta32 (x := v4) (y := (1 : Int32)) (by omega) (by omega); have hm4_ := mul10 (x := v4) (by omega); omega) (lv_sub hl [3, 4, 5, 6, 7, 0] rfl) hP hD hS hF
            · rw [if_neg c66] at hF
              refine lv_bipush (v := (10 : Int32)) hx hb dX0_bestMove_69 (by decide) ?_
              refine lv_iload hx hb dX0_bestMove_71 (lv_at hl 6 rfl) ?_
              refine lv_imul hx hb dX0_bestMove_73 ?_
              refine lv_iload hx hb dX0_bestMove_74 (lv_at hl 7 rfl) ?_
              refine lv_iadd hx hb dX0_bestMove_76 ?_
              refine lv_istore_n (lv' := [(1, .int (((10 : Int32) * v4) + v5)), (7, .int r2102), (6, .int r2101), (0, .ref L), (2, .int v2), (3, .int v3), (4, .int v4), (5, .int v5)]) hx hb dX0_bestMove_77 rfl hl (by decide) rfl (fun ls hl => ?_)
              refine lv_iload hx hb dX0_bestMove_78 (lv_at hl 2 rfl) ?_
              refine lv_istore_n (lv' := [(2, .int r2101), (1, .int (((10 : Int32) * v4) + v5)), (7, .int r2102), (6, .int r2101), (0, .ref L), (3, .int v3), (4, .int v4), (5, .int v5)]) hx hb dX0_bestMove_80 rfl hl (by decide) rfl (fun ls hl => ?_)
              refine lv_iload hx hb dX0_bestMove_81 (lv_at hl 2 rfl) ?_
              refine lv_istore_n (lv' := [(3, .int r2102), (2, .int r2101), (1, .int (((10 : Int32) * v4) + v5)), (7, .int r2102), (6, .int r2101), (0, .ref L), (4, .int v4), (5, .int v5)]) hx hb dX0_bestMove_83 rfl hl (by decide) rfl (fun ls hl => ?_)
              refine lv_iinc (v := (v5 + (1 : Int32))) (lv' := [(5, .int (v5 + (1 : Int32))), (3, .int r2102), (2, .int r2101), (1, .int (((10 : Int32) * v4) + v5)), (7, .int r2102), (6, .int r2101), (0, .ref L), (4, .int v4)]) hx hb dX0_bestMove_84 hl (k := 7) rfl (by rfl) (by decide) rfl (fun ls hl => ?_)
              refine lv_goto (tgt := 21) hx hb dX0_bestMove_87 (by decide) ?_
              exact ih_21 (((10 : Int32) * v4) + v5) r2101 r2102 v4 (v5 + (1 : Int32)) _ _ _ (by have zl_0 : (1 : Int32).toInt = 1 := (by decide); have zl_1 : (10 : Int32).toInt = 10 := (by decide); have q_c27 := mt Int32.le_iff_toInt_le.mpr c27; have i_c27 := inc_nle c27; have q_c66 := mt Int32.le_iff_toInt_le.mpr c66; have i_c66 := inc_nle c66; have zq1_ : (1 : Int32).toInt = 1 := rfl; have hi4_ := ta32 (x := v4) (y := (1 : Int32)) (by omega) (by omega); have hm4_ := mul10 (x := v4) (by omega); first | omega | (have hb := ta32 (x := ((10 : Int32) * v4)) (y := v5) (by omega) (by omega); omega)) (by have zl_0 : (1 : Int32).toInt = 1 := (by decide); have zl_1 : (10 : Int32).toInt = 10 := (by decide); have q_c27 := mt Int32.le_iff_toInt_le.mpr c27; have i_c27 := inc_nle c27; have q_c66 := mt Int32.le_iff_toInt_le.mpr c66; have i_c66 := inc_nle c66; have zq1_ : (1 : Int32).toInt = 1 := rfl; have hi4_ := ta32 (x := v4) (y := (1 : Int32)) (by omega) (by omega); have hm4_ := mul10 (x := v4) (by omega); omega) (lv_sub hl [6, 3, 2, 1, 7, 0] rfl) hP hD hS hF
      rw [f_X0_bestMove_L9] at hF
      refine lv_iload hx hb dX0_bestMove_9 (lv_at hl 4 rfl) ?_
      refine lv_aload_n hx hb dX0_bestMove_11 rfl (lv_at hl 0 rfl) ?_
      refine gf_X0_3 (v := .int tc) hx hb ht hown hK hP 0 rfl (ht _ wm_37) rfl dX0_bestMove_12 ?_
      refine lv_icmp_ge (tgt := 96) hx hb dX0_bestMove_15 (by decide) (fun c15 => ?_) (fun c15 => ?_)
      · rw [if_pos c15] at hF
        refine lv_iload_n hx hb dX0_bestMove_96 rfl (lv_at hl 1 rfl) ?_
        exact hret v1 () _ _ _ _ ⟨hF.symm, by have q_c15 := Int32.le_iff_toInt_le.mp c15; omega⟩ rfl hP hD hS dX0_bestMove_97
      · rw [if_neg c15] at hF
        refine lv_iconst (v := (0 : Int32)) hx hb dX0_bestMove_18 (by decide) ?_
        refine lv_istore (lv' := [(5, .int (0 : Int32)), (0, .ref L), (1, .int v1), (2, .int v2), (3, .int v3), (4, .int v4)]) hx hb dX0_bestMove_19 hl (by decide) rfl (fun ls hl => ?_)
        exact K_21 6 v1 v2 v3 v4 (0 : Int32) _ _ _ (by have zl_0 : (0 : Int32).toInt = 0 := (by decide); have q_c15 := mt Int32.le_iff_toInt_le.mpr c15; have i_c15 := inc_nle c15; omega) (by have zl_0 : (0 : Int32).toInt = 0 := (by decide); have q_c15 := mt Int32.le_iff_toInt_le.mpr c15; have i_c15 := inc_nle c15; omega) (lv_sub hl [1, 2, 3, 4, 5, 0] rfl) hP hD hS hF
  refine lv_iconst (v := (0 : Int32)) hx hb dX0_bestMove_0 (by decide) ?_
  refine lv_istore_n (lv' := [(1, .int (0 : Int32)), (0, .ref L)]) hx hb dX0_bestMove_1 rfl hl (by decide) rfl (fun ls hl => ?_)
  refine lv_iconst (v := (0 : Int32)) hx hb dX0_bestMove_2 (by decide) ?_
  refine lv_istore_n (lv' := [(2, .int (0 : Int32)), (1, .int (0 : Int32)), (0, .ref L)]) hx hb dX0_bestMove_3 rfl hl (by decide) rfl (fun ls hl => ?_)
  refine lv_iconst (v := (1 : Int32)) hx hb dX0_bestMove_4 (by decide) ?_
  refine lv_istore_n (lv' := [(3, .int (1 : Int32)), (2, .int (0 : Int32)), (1, .int (0 : Int32)), (0, .ref L)]) hx hb dX0_bestMove_5 rfl hl (by decide) rfl (fun ls hl => ?_)
  refine lv_iconst (v := (0 : Int32)) hx hb dX0_bestMove_6 (by decide) ?_
  refine lv_istore (lv' := [(4, .int (0 : Int32)), (3, .int (1 : Int32)), (2, .int (0 : Int32)), (1, .int (0 : Int32)), (0, .ref L)]) hx hb dX0_bestMove_7 hl (by decide) rfl (fun ls hl => ?_)
  exact K_9 7 (0 : Int32) (0 : Int32) (1 : Int32) (0 : Int32) _ _ _ (by have zl_0 : (0 : Int32).toInt = 0 := (by decide); have zl_1 : (1 : Int32).toInt = 1 := (by decide); omega) (by have zl_0 : (0 : Int32).toInt = 0 := (by decide); have zl_1 : (1 : Int32).toInt = 1 := (by decide); omega) (lv_sub hl [4, 3, 2, 1, 0] rfl) hP hD hS hF
theorem i64_ne {r : Int32} (h : 1 ≤ r.toInt) : ¬ Int32.toInt64 r = 0 := by
  intro e
  have h2 := congrArg Int64.toInt e
  rw [Int32.toInt_toInt64] at h2
  have z : (0 : Int64).toInt = 0 := rfl
  omega
theorem lcmp_ge1 {d : Int64} (h : (0 : Int32) ≤ lg_cmp d 1) : ¬ d = 0 := by
  intro e
  subst e
  exact absurd h (by decide)
def f_X0_bestOf (yd : Int32) (wd : Int32) (pc : Int32) (tc : Int32) (bl : Int32) (ya : Nat → Int32) (pa : Nat → Int32) (sa : Nat → Int32) (ta : Nat → Int32) (tr : Nat → Option Nat) (tk : Nat → Int32) (tf : Nat → Int32) (th : Nat → Int32) (v1 : Int64) : Int64 := (lt1 (f_X0_bestMove yd wd pc tc bl ya pa sa ta tr tk tf th) (fun r1 => (lt1 (f_X0_ways sa ta tr tk tf th (r1 / (10 : Int32)) bl (r1 - r1 / (10 : Int32) * (10 : Int32))) (fun r2 => (if (1 : Int32) ≤ r2 then (lt1 (f_X0_waysHad yd wd ya pa sa ta tr tk tf th (r1 / (10 : Int32)) bl (r1 - r1 / (10 : Int32) * (10 : Int32))) (fun r3 => ((v1 * (Int32.toInt64 r3)) / (Int32.toInt64 r2)))) else (0 : Int64))))))
abbrev rm_X0_bestOf : Room := { frames := 4, cells := 0, slots := 0, locals := 103 }
noncomputable abbrev wd_X0_bestOf : List Cond := .code yX0_bestOf cX0_bestOf 5 (some .long) :: wsL_law
set_option maxHeartbeats 4000000 in
set_option maxRecDepth 100000 in
theorem c_X0_bestOf (l : Launch) (dC : Nat → ClassId) (dI : Nat → Nat → Nat) (cI cT : ClassId) (L : Nat) (Y : Nat) (P : Nat) (S : Nat) (T : Nat) (R : Nat) (yd : Int32) (wd : Int32) (pc : Int32) (tc : Int32) (bl : Int32) (tm : Int32) (ya : Nat → Int32) (pa : Nat → Int32) (sa : Nat → Int32) (ta : Nat → Int32) (tr : Nat → Option Nat) (LP : List Nat) (tk tf th : Nat → Int32) (v1 : Int64) (hpc : 0 ≤ pc.toInt ∧ pc.toInt ≤ 5) (htc : 0 ≤ tc.toInt ∧ tc.toInt ≤ 6) (hbl : 0 ≤ bl.toInt ∧ bl.toInt < 5) (hT : ∀ i, i < 6 → tr i = some (tA tr i) ∧ tA tr i ∈ LP) : CtL l (dC, dI) cI cT yX0_bestOf wd_X0_bestOf rm_X0_bestOf [.ref L, .long v1] (W_lane cI cT L Y P S T R yd wd pc tc bl tm ya pa sa ta tr ++ va_pl LP (tg tk tf th)) (fun (r : Int64) (_ : Unit) => f_X0_bestOf yd wd pc tc bl ya pa sa ta tr tk tf th v1 = r) (fun _ => W_lane cI cT L Y P S T R yd wd pc tc bl tm ya pa sa ta tr ++ va_pl LP (tg tk tf th)) 0 0 := by
  refine ct_l (cc := cX0_bestOf) (maxL := 5) (by decide) rfl (Nat.le_of_ble_eq_true rfl) ?_
  intro p e s m args below meth c A ls Q hx hb hml hts hown hmn hA hK hNS hP hD hS hl hret
  have ht : ∀ w ∈ wsL_law, w.before args s = true := fun w h => hts w (List.mem_cons_of_mem _ h)
  have hl : lv_has ls 5 [(0, .ref L), (1, .long v1)] := hl
  generalize hF : f_X0_bestOf yd wd pc tc bl ya pa sa ta tr tk tf th v1 = F at hret
  unfold f_X0_bestOf at hF
  refine lv_aload_n hx hb dX0_bestOf_0 rfl (lv_at hl 0 rfl) ?_
  refine kcF_i (rx := fun (_ : Unit) => W_lane cI cT L Y P S T R yd wd pc tc bl tm ya pa sa ta tr) (pl1 := fun _ => va_pl LP (tg tk tf th)) (va_runV (As := []) (rest := []) ⟨hx, hb, hml, hown, ht⟩ (c_X0_bestMove l dC dI cI cT L Y P S T R yd wd pc tc bl tm ya pa sa ta tr LP tk tf th (by omega) (by omega) (by omega) hT _) (cwV 0 ht (gV wm_553 wm_522 wm_523 wm_14 wm_524) rfl rfl rfl dv_X0_bestMove ⟨Nat.le_of_ble_eq_true rfl, Nat.le_of_ble_eq_true rfl⟩) (preV hK hNS hP hD (va_recv hK hP (ci := 0) (q0 := 0) rfl rfl)) rfl rfl hl.1 rfl (lv_room (Nat.le_of_ble_eq_true rfl)) dX0_bestOf_1 ⟨Nat.le_of_ble_eq_true rfl, Nat.le_of_ble_eq_true rfl⟩) hP hD hS hA (fun r1 _ H locs e1 hP hD hS => ?_)
  obtain ⟨e1, ne1⟩ := e1
  rw [e1, lt1_def] at hF
  have hP : va_P (dC, dI) vwCl (W_lane cI cT L Y P S T R yd wd pc tc bl tm ya pa sa ta tr ++ va_pl LP (tg tk tf th)) H := hP
  have hD : va_D A (W_lane cI cT L Y P S T R yd wd pc tc bl tm ya pa sa ta tr ++ va_pl LP (tg tk tf th)) := hD
  refine lv_istore_n (lv' := [(3, .int r1), (0, .ref L), (1, .long v1)]) hx hb dX0_bestOf_4 rfl hl (by decide) rfl (fun ls hl => ?_)
  refine lv_aload_n hx hb dX0_bestOf_5 rfl (lv_at hl 1 rfl) ?_
  refine lv_iload_n hx hb dX0_bestOf_6 rfl (lv_at hl 0 rfl) ?_
  refine lv_bipush (v := (10 : Int32)) hx hb dX0_bestOf_7 (by decide) ?_
  refine lv_idiv hx hb dX0_bestOf_9 (by decide) ?_
  refine lv_aload_n hx hb dX0_bestOf_10 rfl (lv_at hl 1 rfl) ?_
  refine gf_X0_4 (v := .int bl) hx hb ht hown hK hP 0 rfl (ht _ wm_38) rfl dX0_bestOf_11 ?_
  refine lv_iload_n hx hb dX0_bestOf_14 rfl (lv_at hl 0 rfl) ?_
  refine lv_bipush (v := (10 : Int32)) hx hb dX0_bestOf_15 (by decide) ?_
  refine lv_irem hx hb dX0_bestOf_17 (by decide) ?_
  refine kcF_i (rx := fun (_ : Unit) => W_lane cI cT L Y P S T R yd wd pc tc bl tm ya pa sa ta tr) (pl1 := fun _ => va_pl LP (tg tk tf th)) (va_runV (As := [.int (r1 / (10 : Int32)), .int bl, .int (r1 - r1 / (10 : Int32) * (10 : Int32))]) (rest := []) ⟨hx, hb, hml, hown, ht⟩ (c_X0_ways l dC dI cI cT L Y P S T R yd wd pc tc bl tm ya pa sa ta tr LP tk tf th (r1 / (10 : Int32)) bl (r1 - r1 / (10 : Int32) * (10 : Int32)) (vp_of (by have dv_ := td32 (x := r1) (y := (10 : Int32)) 10 rfl (by omega) (by omega); omega)) (vp_of (by omega)) hT _) (cwV 3 ht (gV wm_526 wm_479 wm_480 wm_14 wm_481) rfl rfl rfl dv_X0_ways ⟨Nat.le_of_ble_eq_true rfl, Nat.le_of_ble_eq_true rfl⟩) (preV hK hNS hP hD (va_recv hK hP (ci := 0) (q0 := 0) rfl rfl)) rfl rfl hl.1 rfl (lv_room (Nat.le_of_ble_eq_true rfl)) dX0_bestOf_18 ⟨Nat.le_of_ble_eq_true rfl, Nat.le_of_ble_eq_true rfl⟩) hP hD hS hA (fun r2 _ H locs e2 hP hD hS => ?_)
  rw [e2, lt1_def] at hF
  have hP : va_P (dC, dI) vwCl (W_lane cI cT L Y P S T R yd wd pc tc bl tm ya pa sa ta tr ++ va_pl LP (tg tk tf th)) H := hP
  have hD : va_D A (W_lane cI cT L Y P S T R yd wd pc tc bl tm ya pa sa ta tr ++ va_pl LP (tg tk tf th)) := hD
  refine lv_istore (lv' := [(4, .int r2), (3, .int r1), (0, .ref L), (1, .long v1)]) hx hb dX0_bestOf_21 hl (by decide) rfl (fun ls hl => ?_)
  refine lv_iload hx hb dX0_bestOf_23 (lv_at hl 0 rfl) ?_
  refine lv_iconst (v := (1 : Int32)) hx hb dX0_bestOf_25 (by decide) ?_
  refine lv_icmp_ge (tgt := 33) hx hb dX0_bestOf_26 (by decide) (fun c26 => ?_) (fun c26 => ?_)
  · rw [if_pos c26] at hF
    refine lv_lload_n hx hb dX0_bestOf_33 rfl (lv_at hl 3 rfl) ?_
    refine lv_aload_n hx hb dX0_bestOf_34 rfl (lv_at hl 2 rfl) ?_
    refine lv_iload_n hx hb dX0_bestOf_35 rfl (lv_at hl 1 rfl) ?_
    refine lv_bipush (v := (10 : Int32)) hx hb dX0_bestOf_36 (by decide) ?_
    refine lv_idiv hx hb dX0_bestOf_38 (by decide) ?_
    refine lv_aload_n hx hb dX0_bestOf_39 rfl (lv_at hl 2 rfl) ?_
    refine gf_X0_4 (v := .int bl) hx hb ht hown hK hP 0 rfl (ht _ wm_38) rfl dX0_bestOf_40 ?_
    refine lv_iload_n hx hb dX0_bestOf_43 rfl (lv_at hl 1 rfl) ?_
    refine lv_bipush (v := (10 : Int32)) hx hb dX0_bestOf_44 (by decide) ?_
    refine lv_irem hx hb dX0_bestOf_46 (by decide) ?_
    refine kcF_i (rx := fun (_ : Unit) => W_lane cI cT L Y P S T R yd wd pc tc bl tm ya pa sa ta tr) (pl1 := fun _ => va_pl LP (tg tk tf th)) (va_runV (As := [.int (r1 / (10 : Int32)), .int bl, .int (r1 - r1 / (10 : Int32) * (10 : Int32))]) (rest := [.long v1]) ⟨hx, hb, hml, hown, ht⟩ (c_X0_waysHad l dC dI cI cT L Y P S T R yd wd pc tc bl tm ya pa sa ta tr LP tk tf th (r1 / (10 : Int32)) bl (r1 - r1 / (10 : Int32) * (10 : Int32)) (vp_of (by have dv_ := td32 (x := r1) (y := (10 : Int32)) 10 rfl (by omega) (by omega); omega)) (vp_of (by have zl_0 : (1 : Int32).toInt = 1 := (by decide); have q_c26 := Int32.le_iff_toInt_le.mp c26; omega)) (vp_of (by have rm_ := tr32 (x := r1) (y := (10 : Int32)) 10 rfl (by omega) (by omega); omega)) hT _) (cwV 3 ht (gV wm_525 wm_475 wm_476 wm_14 wm_477) rfl rfl rfl dv_X0_waysHad ⟨Nat.le_of_ble_eq_true rfl, Nat.le_of_ble_eq_true rfl⟩) (preV hK hNS hP hD (va_recv hK hP (ci := 0) (q0 := 0) rfl rfl)) rfl rfl hl.1 rfl (lv_room (Nat.le_of_ble_eq_true rfl)) dX0_bestOf_47 ⟨Nat.le_of_ble_eq_true rfl, Nat.le_of_ble_eq_true rfl⟩) hP hD hS hA (fun r3 _ H locs e3 hP hD hS => ?_)
    rw [e3, lt1_def] at hF
    have hP : va_P (dC, dI) vwCl (W_lane cI cT L Y P S T R yd wd pc tc bl tm ya pa sa ta tr ++ va_pl LP (tg tk tf th)) H := hP
    have hD : va_D A (W_lane cI cT L Y P S T R yd wd pc tc bl tm ya pa sa ta tr ++ va_pl LP (tg tk tf th)) := hD
    refine lv_i2l (v := (Int32.toInt64 r3)) hx hb dX0_bestOf_50 rfl ?_
    refine lv_lmul hx hb dX0_bestOf_51 ?_
    refine lv_iload hx hb dX0_bestOf_52 (lv_at hl 0 rfl) ?_
    refine lv_i2l (v := (Int32.toInt64 r2)) hx hb dX0_bestOf_54 rfl ?_
    refine lv_ldiv hx hb dX0_bestOf_55 (i64_ne (by have zl_0 : (1 : Int32).toInt = 1 := (by decide); have q_c26 := Int32.le_iff_toInt_le.mp c26; omega)) ?_
    exact hret ((v1 * (Int32.toInt64 r3)) / (Int32.toInt64 r2)) () _ _ _ _ hF.symm hP hD hS dX0_bestOf_56
  · rw [if_neg c26] at hF
    refine lv_lconst (v := (0 : Int64)) hx hb dX0_bestOf_29 (by decide) ?_
    refine lv_goto (tgt := 56) hx hb dX0_bestOf_30 (by decide) ?_
    exact hret (0 : Int64) () _ _ _ _ hF.symm hP hD hS dX0_bestOf_56
def f_X0_copyFrom_L111 (otr : Nat → Option Nat) : Nat → Int32 → Int32 → Int32 → Int32 → Int32 → Int32 → Int32 → (Nat → Int32) → (Nat → Int32) → (Nat → Int32) → (Nat → Int32) → (Nat → Option Nat) → (Int32) × (Int32) × (Int32) × (Int32) × (Int32) × (Int32) × (Nat → Int32) × (Nat → Int32) × (Nat → Int32) × (Nat → Int32) × (Nat → Option Nat)
  | 0, v2, yd_l, wd_l, pc_l, tc_l, bl_l, tm_l, ya_l, pa_l, sa_l, ta_l, tr_l => (yd_l, wd_l, pc_l, tc_l, bl_l, tm_l, ya_l, pa_l, sa_l, ta_l, tr_l)
  | n_111 + 1, v2, yd_l, wd_l, pc_l, tc_l, bl_l, tm_l, ya_l, pa_l, sa_l, ta_l, tr_l => (if (6 : Int32) ≤ v2 then (yd_l, wd_l, pc_l, tc_l, bl_l, tm_l, ya_l, pa_l, sa_l, ta_l, tr_l) else (f_X0_copyFrom_L111 otr n_111 (v2 + (1 : Int32)) yd_l wd_l pc_l tc_l bl_l tm_l ya_l pa_l sa_l ta_l (va_up tr_l (Int32.toNatClampNeg v2) (some (tA otr (Int32.toNatClampNeg v2))))))
def f_X0_copyFrom_L50 (tr : Nat → Option Nat) (oya : Nat → Int32) (opa : Nat → Int32) (osa : Nat → Int32) (ota : Nat → Int32) (otr : Nat → Option Nat) : Nat → Int32 → Int32 → Int32 → Int32 → Int32 → Int32 → Int32 → (Nat → Int32) → (Nat → Int32) → (Nat → Int32) → (Nat → Int32) → (Int32) × (Int32) × (Int32) × (Int32) × (Int32) × (Int32) × (Nat → Int32) × (Nat → Int32) × (Nat → Int32) × (Nat → Int32) × (Nat → Option Nat)
  | 0, v2, yd_l, wd_l, pc_l, tc_l, bl_l, tm_l, ya_l, pa_l, sa_l, ta_l => (yd_l, wd_l, pc_l, tc_l, bl_l, tm_l, ya_l, pa_l, sa_l, ta_l, tr)
  | n_50 + 1, v2, yd_l, wd_l, pc_l, tc_l, bl_l, tm_l, ya_l, pa_l, sa_l, ta_l => (if (5 : Int32) ≤ v2 then (f_X0_copyFrom_L111 otr 7 (0 : Int32) yd_l wd_l pc_l tc_l bl_l tm_l ya_l pa_l sa_l ta_l tr) else (f_X0_copyFrom_L50 tr oya opa osa ota otr n_50 (v2 + (1 : Int32)) yd_l wd_l pc_l tc_l bl_l tm_l (upd ya_l (Int32.toNatClampNeg v2) (oya (Int32.toNatClampNeg v2))) (upd pa_l (Int32.toNatClampNeg v2) (opa (Int32.toNatClampNeg v2))) (upd sa_l (Int32.toNatClampNeg v2) (osa (Int32.toNatClampNeg v2))) (upd ta_l (Int32.toNatClampNeg v2) (ota (Int32.toNatClampNeg v2)))))
def f_X0_copyFrom (ya : Nat → Int32) (pa : Nat → Int32) (sa : Nat → Int32) (ta : Nat → Int32) (tr : Nat → Option Nat) (oyd : Int32) (owd : Int32) (opc : Int32) (otc : Int32) (obl : Int32) (otm : Int32) (oya : Nat → Int32) (opa : Nat → Int32) (osa : Nat → Int32) (ota : Nat → Int32) (otr : Nat → Option Nat) : (Int32) × (Int32) × (Int32) × (Int32) × (Int32) × (Int32) × (Nat → Int32) × (Nat → Int32) × (Nat → Int32) × (Nat → Int32) × (Nat → Option Nat) := (f_X0_copyFrom_L50 tr oya opa osa ota otr 6 (0 : Int32) oyd owd opc otc obl otm ya pa sa ta)
abbrev rm_X0_copyFrom : Room := { frames := 0, cells := 0, slots := 0, locals := 0 }
noncomputable abbrev wd_X0_copyFrom : List Cond := .code yX0_copyFrom cX0_copyFrom 3 none :: wsL_law
set_option maxHeartbeats 4000000 in
set_option maxRecDepth 100000 in
theorem c_X0_copyFrom (l : Launch) (dC : Nat → ClassId) (dI : Nat → Nat → Nat) (cI cT : ClassId) (L : Nat) (Y : Nat) (P : Nat) (S : Nat) (T : Nat) (R : Nat) (oL : Nat) (oY : Nat) (oP : Nat) (oS : Nat) (oT : Nat) (oR : Nat) (yd : Int32) (wd : Int32) (pc : Int32) (tc : Int32) (bl : Int32) (tm : Int32) (ya : Nat → Int32) (pa : Nat → Int32) (sa : Nat → Int32) (ta : Nat → Int32) (tr : Nat → Option Nat) (oyd : Int32) (owd : Int32) (opc : Int32) (otc : Int32) (obl : Int32) (otm : Int32) (oya : Nat → Int32) (opa : Nat → Int32) (osa : Nat → Int32) (ota : Nat → Int32) (otr : Nat → Option Nat) (LP : List Nat) (tk tf th : Nat → Int32) (hT_o : ∀ i, i < 6 → otr i = some (tA otr i) ∧ tA otr i ∈ LP) : CtV l (dC, dI) cI cT yX0_copyFrom wd_X0_copyFrom rm_X0_copyFrom [.ref L, .ref oL] (W_lane2 cI cT L Y P S T R oL oY oP oS oT oR yd wd pc tc bl tm ya pa sa ta tr oyd owd opc otc obl otm oya opa osa ota otr ++ va_pl LP (tg tk tf th)) (fun (u : (Int32) × (Int32) × (Int32) × (Int32) × (Int32) × (Int32) × (Nat → Int32) × (Nat → Int32) × (Nat → Int32) × (Nat → Int32) × (Nat → Option Nat)) => f_X0_copyFrom ya pa sa ta tr oyd owd opc otc obl otm oya opa osa ota otr = u) (fun u => W_lane2 cI cT L Y P S T R oL oY oP oS oT oR u.1 u.2.1 u.2.2.1 u.2.2.2.1 u.2.2.2.2.1 u.2.2.2.2.2.1 u.2.2.2.2.2.2.1 u.2.2.2.2.2.2.2.1 u.2.2.2.2.2.2.2.2.1 u.2.2.2.2.2.2.2.2.2.1 u.2.2.2.2.2.2.2.2.2.2 oyd owd opc otc obl otm oya opa osa ota otr ++ va_pl LP (tg tk tf th)) 0 0 := by
  refine ct_v (cc := cX0_copyFrom) (maxL := 3) (by decide) rfl (Nat.le_of_ble_eq_true rfl) ?_
  intro p e s m args below meth c A ls Q hx hb hml hts hown hmn hA hK hNS hP hD hS hl hret
  have ht : ∀ w ∈ wsL_law, w.before args s = true := fun w h => hts w (List.mem_cons_of_mem _ h)
  have hl : lv_has ls 3 [(0, .ref L), (1, .ref oL)] := hl
  generalize hF : f_X0_copyFrom ya pa sa ta tr oyd owd opc otc obl otm oya opa osa ota otr = F at hret
  unfold f_X0_copyFrom at hF
  have K_111 : ∀ (n_111 : Nat) (v2 : Int32) (yd_l : Int32) (wd_l : Int32) (pc_l : Int32) (tc_l : Int32) (bl_l : Int32) (tm_l : Int32) (ya_l : Nat → Int32) (pa_l : Nat → Int32) (sa_l : Nat → Int32) (ta_l : Nat → Int32) (tr_l : Nat → Option Nat) (H : Heap) (locs : List Loc) (ls : Array Slot), (0 ≤ v2.toInt) → ((6 : Int) - v2.toInt).toNat < n_111 → lv_has ls 3 [(0, .ref L), (1, .ref oL), (2, .int v2)] → va_P (dC, dI) vwCl (W_lane2 cI cT L Y P S T R oL oY oP oS oT oR yd_l wd_l pc_l tc_l bl_l tm_l ya_l pa_l sa_l ta_l tr_l oyd owd opc otc obl otm oya opa osa ota otr ++ va_pl LP (tg tk tf th)) H → va_D A (W_lane2 cI cT L Y P S T R oL oY oP oS oT oR yd_l wd_l pc_l tc_l bl_l tm_l ya_l pa_l sa_l ta_l tr_l oyd owd opc otc obl otm oya opa osa ota otr ++ va_pl LP (tg tk tf th)) → va_S A s.heap H locs → f_X0_copyFrom_L111 otr n_111 v2 yd_l wd_l pc_l tc_l bl_l tm_l ya_l pa_l sa_l ta_l tr_l = F → W p l e rm_X0_copyFrom s m args below meth c H locs 0 0 Q (F0 m 111 ls []) := by
    intro n_111
    induction n_111 with
    | zero => intro v2 yd_l wd_l pc_l tc_l bl_l tm_l ya_l pa_l sa_l ta_l tr_l H locs ls hinv_111 hms; exact absurd hms (Nat.not_lt_zero _)
    | succ n_111 ih_111 =>
      intro v2 yd_l wd_l pc_l tc_l bl_l tm_l ya_l pa_l sa_l ta_l tr_l H locs ls hinv_111 hms_111 hl hP hD hS hF
      rw [f_X0_copyFrom_L111] at hF
      refine lv_iload_n hx hb dX0_copyFrom_111 rfl (lv_at hl 2 rfl) ?_
      refine lv_bipush (v := (6 : Int32)) hx hb dX0_copyFrom_112 (by decide) ?_
      refine lv_icmp_ge (tgt := 135) hx hb dX0_copyFrom_114 (by decide) (fun c114 => ?_) (fun c114 => ?_)
      · rw [if_pos c114] at hF
        exact hret (yd_l, wd_l, pc_l, tc_l, bl_l, tm_l, ya_l, pa_l, sa_l, ta_l, tr_l) _ _ _ _ hF.symm hP hD hS dX0_copyFrom_135
      · rw [if_neg c114] at hF
        refine lv_aload_n hx hb dX0_copyFrom_117 rfl (lv_at hl 0 rfl) ?_
        refine gf_X0_10 (v := .ref R) hx hb ht hown hK hP 0 rfl (ht _ wm_45) rfl dX0_copyFrom_118 ?_
        refine lv_iload_n hx hb dX0_copyFrom_121 rfl (lv_at hl 2 rfl) ?_
        refine lv_aload_n hx hb dX0_copyFrom_122 rfl (lv_at hl 1 rfl) ?_
        refine gf_X0_10 (v := .ref oR) hx hb ht hown hK hP 6 rfl (ht _ wm_45) rfl dX0_copyFrom_123 ?_
        refine lv_iload_n hx hb dX0_copyFrom_126 rfl (lv_at hl 2 rfl) ?_
        have hi127 : vp_in v2 6 := (vp_of (by have zl_0 : (6 : Int32).toInt = 6 := (by decide); have q_c114 := mt Int32.le_iff_toInt_le.mpr c114; have i_c114 := inc_nle c114; omega))
        refine va_aldT hx hb hK hP 11 1 rfl rfl hi127 (hT_o _ (vp_lt hi127)).1 dX0_copyFrom_127 ?_
        obtain ⟨kp11101, hk11102⟩ := va_pl_get (X := W_lane2 cI cT L Y P S T R oL oY oP oS oT oR yd_l wd_l pc_l tc_l bl_l tm_l ya_l pa_l sa_l ta_l tr_l oyd owd opc otc obl otm oya opa osa ota otr) (f := tg tk tf th) (hT_o _ (vp_lt hi127)).2
        refine va_astq hx hb hK hP hD hS 5 1 kp11101 3 rfl rfl hk11102 rfl (vp_of (by have zl_0 : (6 : Int32).toInt = 6 := (by decide); have q_c114 := mt Int32.le_iff_toInt_le.mpr c114; have i_c114 := inc_nle c114; omega)) dX0_copyFrom_128 (fun H locs hP hD hS => ?_)
        have hP : va_P (dC, dI) vwCl (W_lane2 cI cT L Y P S T R oL oY oP oS oT oR yd_l wd_l pc_l tc_l bl_l tm_l ya_l pa_l sa_l ta_l (va_up tr_l (Int32.toNatClampNeg v2) (some (tA otr (Int32.toNatClampNeg v2)))) oyd owd opc otc obl otm oya opa osa ota otr ++ va_pl LP (tg tk tf th)) H := hP
        have hD : va_D A (W_lane2 cI cT L Y P S T R oL oY oP oS oT oR yd_l wd_l pc_l tc_l bl_l tm_l ya_l pa_l sa_l ta_l (va_up tr_l (Int32.toNatClampNeg v2) (some (tA otr (Int32.toNatClampNeg v2)))) oyd owd opc otc obl otm oya opa osa ota otr ++ va_pl LP (tg tk tf th)) := hD
        refine lv_iinc (v := (v2 + (1 : Int32))) (lv' := [(2, .int (v2 + (1 : Int32))), (0, .ref L), (1, .ref oL)]) hx hb dX0_copyFrom_129 hl (k := 2) rfl (by rfl) (by decide) rfl (fun ls hl => ?_)
        refine lv_goto (tgt := 111) hx hb dX0_copyFrom_132 (by decide) ?_
        exact ih_111 (v2 + (1 : Int32)) yd_l wd_l pc_l tc_l bl_l tm_l ya_l pa_l sa_l ta_l (va_up tr_l (Int32.toNatClampNeg v2) (some (tA otr (Int32.toNatClampNeg v2)))) _ _ _ (by have zl_0 : (1 : Int32).toInt = 1 := (by decide); have zl_1 : (6 : Int32).toInt = 6 := (by decide); have q_c114 := mt Int32.le_iff_toInt_le.mpr c114; have i_c114 := inc_nle c114; omega) (by have zl_0 : (1 : Int32).toInt = 1 := (by decide); have zl_1 : (6 : Int32).toInt = 6 := (by decide); have q_c114 := mt Int32.le_iff_toInt_le.mpr c114; have i_c114 := inc_nle c114; omega) (lv_sub hl [1, 2, 0] rfl) hP hD hS hF
  have K_50 : ∀ (n_50 : Nat) (v2 : Int32) (yd_l : Int32) (wd_l : Int32) (pc_l : Int32) (tc_l : Int32) (bl_l : Int32) (tm_l : Int32) (ya_l : Nat → Int32) (pa_l : Nat → Int32) (sa_l : Nat → Int32) (ta_l : Nat → Int32) (H : Heap) (locs : List Loc) (ls : Array Slot), (0 ≤ v2.toInt) → ((5 : Int) - v2.toInt).toNat < n_50 → lv_has ls 3 [(0, .ref L), (1, .ref oL), (2, .int v2)] → va_P (dC, dI) vwCl (W_lane2 cI cT L Y P S T R oL oY oP oS oT oR yd_l wd_l pc_l tc_l bl_l tm_l ya_l pa_l sa_l ta_l tr oyd owd opc otc obl otm oya opa osa ota otr ++ va_pl LP (tg tk tf th)) H → va_D A (W_lane2 cI cT L Y P S T R oL oY oP oS oT oR yd_l wd_l pc_l tc_l bl_l tm_l ya_l pa_l sa_l ta_l tr oyd owd opc otc obl otm oya opa osa ota otr ++ va_pl LP (tg tk tf th)) → va_S A s.heap H locs → f_X0_copyFrom_L50 tr oya opa osa ota otr n_50 v2 yd_l wd_l pc_l tc_l bl_l tm_l ya_l pa_l sa_l ta_l = F → W p l e rm_X0_copyFrom s m args below meth c H locs 0 0 Q (F0 m 50 ls []) := by
    intro n_50
    induction n_50 with
    | zero => intro v2 yd_l wd_l pc_l tc_l bl_l tm_l ya_l pa_l sa_l ta_l H locs ls hinv_50 hms; exact absurd hms (Nat.not_lt_zero _)
    | succ n_50 ih_50 =>
      intro v2 yd_l wd_l pc_l tc_l bl_l tm_l ya_l pa_l sa_l ta_l H locs ls hinv_50 hms_50 hl hP hD hS hF
      rw [f_X0_copyFrom_L50] at hF
      refine lv_iload_n hx hb dX0_copyFrom_50 rfl (lv_at hl 2 rfl) ?_
      refine lv_iconst (v := (5 : Int32)) hx hb dX0_copyFrom_51 (by decide) ?_
      refine lv_icmp_ge (tgt := 109) hx hb dX0_copyFrom_52 (by decide) (fun c52 => ?_) (fun c52 => ?_)
      · rw [if_pos c52] at hF
        refine lv_iconst (v := (0 : Int32)) hx hb dX0_copyFrom_109 (by decide) ?_
        refine lv_istore_n (lv' := [(2, .int (0 : Int32)), (0, .ref L), (1, .ref oL)]) hx hb dX0_copyFrom_110 rfl hl (by decide) rfl (fun ls hl => ?_)
        exact K_111 7 (0 : Int32) yd_l wd_l pc_l tc_l bl_l tm_l ya_l pa_l sa_l ta_l tr _ _ _ (by have zl_0 : (0 : Int32).toInt = 0 := (by decide); have zl_1 : (5 : Int32).toInt = 5 := (by decide); have q_c52 := Int32.le_iff_toInt_le.mp c52; omega) (by have zl_0 : (0 : Int32).toInt = 0 := (by decide); have zl_1 : (5 : Int32).toInt = 5 := (by decide); have q_c52 := Int32.le_iff_toInt_le.mp c52; omega) (lv_sub hl [1, 2, 0] rfl) hP hD hS hF
      · rw [if_neg c52] at hF
        refine lv_aload_n hx hb dX0_copyFrom_55 rfl (lv_at hl 0 rfl) ?_
        refine gf_X0_6 (v := .ref Y) hx hb ht hown hK hP 0 rfl (ht _ wm_40) rfl dX0_copyFrom_56 ?_
        refine lv_iload_n hx hb dX0_copyFrom_59 rfl (lv_at hl 2 rfl) ?_
        refine lv_aload_n hx hb dX0_copyFrom_60 rfl (lv_at hl 1 rfl) ?_
        refine gf_X0_6 (v := .ref oY) hx hb ht hown hK hP 6 rfl (ht _ wm_40) rfl dX0_copyFrom_61 ?_
        refine lv_iload_n hx hb dX0_copyFrom_64 rfl (lv_at hl 2 rfl) ?_
        refine va_iald hx hb hK hP 7 0 rfl rfl (vp_of (by have zl_0 : (5 : Int32).toInt = 5 := (by decide); have q_c52 := mt Int32.le_iff_toInt_le.mpr c52; have i_c52 := inc_nle c52; omega)) dX0_copyFrom_65 ?_
        refine va_iast hx hb hK hP hD hS 1 0 rfl rfl (vp_of (by have zl_0 : (5 : Int32).toInt = 5 := (by decide); have q_c52 := mt Int32.le_iff_toInt_le.mpr c52; have i_c52 := inc_nle c52; omega)) dX0_copyFrom_66 (fun H locs hP hD hS => ?_)
        have hP : va_P (dC, dI) vwCl (W_lane2 cI cT L Y P S T R oL oY oP oS oT oR yd_l wd_l pc_l tc_l bl_l tm_l (upd ya_l (Int32.toNatClampNeg v2) (oya (Int32.toNatClampNeg v2))) pa_l sa_l ta_l tr oyd owd opc otc obl otm oya opa osa ota otr ++ va_pl LP (tg tk tf th)) H := hP
        have hD : va_D A (W_lane2 cI cT L Y P S T R oL oY oP oS oT oR yd_l wd_l pc_l tc_l bl_l tm_l (upd ya_l (Int32.toNatClampNeg v2) (oya (Int32.toNatClampNeg v2))) pa_l sa_l ta_l tr oyd owd opc otc obl otm oya opa osa ota otr ++ va_pl LP (tg tk tf th)) := hD
        refine lv_aload_n hx hb dX0_copyFrom_67 rfl (lv_at hl 0 rfl) ?_
        refine gf_X0_7 (v := .ref P) hx hb ht hown hK hP 0 rfl (ht _ wm_41) rfl dX0_copyFrom_68 ?_
        refine lv_iload_n hx hb dX0_copyFrom_71 rfl (lv_at hl 2 rfl) ?_
        refine lv_aload_n hx hb dX0_copyFrom_72 rfl (lv_at hl 1 rfl) ?_
        refine gf_X0_7 (v := .ref oP) hx hb ht hown hK hP 6 rfl (ht _ wm_41) rfl dX0_copyFrom_73 ?_
        refine lv_iload_n hx hb dX0_copyFrom_76 rfl (lv_at hl 2 rfl) ?_
        refine va_iald hx hb hK hP 8 0 rfl rfl (vp_of (by have zl_0 : (5 : Int32).toInt = 5 := (by decide); have q_c52 := mt Int32.le_iff_toInt_le.mpr c52; have i_c52 := inc_nle c52; omega)) dX0_copyFrom_77 ?_
        refine va_iast hx hb hK hP hD hS 2 0 rfl rfl (vp_of (by have zl_0 : (5 : Int32).toInt = 5 := (by decide); have q_c52 := mt Int32.le_iff_toInt_le.mpr c52; have i_c52 := inc_nle c52; omega)) dX0_copyFrom_78 (fun H locs hP hD hS => ?_)
        have hP : va_P (dC, dI) vwCl (W_lane2 cI cT L Y P S T R oL oY oP oS oT oR yd_l wd_l pc_l tc_l bl_l tm_l (upd ya_l (Int32.toNatClampNeg v2) (oya (Int32.toNatClampNeg v2))) (upd pa_l (Int32.toNatClampNeg v2) (opa (Int32.toNatClampNeg v2))) sa_l ta_l tr oyd owd opc otc obl otm oya opa osa ota otr ++ va_pl LP (tg tk tf th)) H := hP
        have hD : va_D A (W_lane2 cI cT L Y P S T R oL oY oP oS oT oR yd_l wd_l pc_l tc_l bl_l tm_l (upd ya_l (Int32.toNatClampNeg v2) (oya (Int32.toNatClampNeg v2))) (upd pa_l (Int32.toNatClampNeg v2) (opa (Int32.toNatClampNeg v2))) sa_l ta_l tr oyd owd opc otc obl otm oya opa osa ota otr ++ va_pl LP (tg tk tf th)) := hD
        refine lv_aload_n hx hb dX0_copyFrom_79 rfl (lv_at hl 0 rfl) ?_
        refine gf_X0_8 (v := .ref S) hx hb ht hown hK hP 0 rfl (ht _ wm_42) rfl dX0_copyFrom_80 ?_
        refine lv_iload_n hx hb dX0_copyFrom_83 rfl (lv_at hl 2 rfl) ?_
        refine lv_aload_n hx hb dX0_copyFrom_84 rfl (lv_at hl 1 rfl) ?_
        refine gf_X0_8 (v := .ref oS) hx hb ht hown hK hP 6 rfl (ht _ wm_42) rfl dX0_copyFrom_85 ?_
        refine lv_iload_n hx hb dX0_copyFrom_88 rfl (lv_at hl 2 rfl) ?_
        refine va_iald hx hb hK hP 9 0 rfl rfl (vp_of (by have zl_0 : (5 : Int32).toInt = 5 := (by decide); have q_c52 := mt Int32.le_iff_toInt_le.mpr c52; have i_c52 := inc_nle c52; omega)) dX0_copyFrom_89 ?_
        refine va_iast hx hb hK hP hD hS 3 0 rfl rfl (vp_of (by have zl_0 : (5 : Int32).toInt = 5 := (by decide); have q_c52 := mt Int32.le_iff_toInt_le.mpr c52; have i_c52 := inc_nle c52; omega)) dX0_copyFrom_90 (fun H locs hP hD hS => ?_)
        have hP : va_P (dC, dI) vwCl (W_lane2 cI cT L Y P S T R oL oY oP oS oT oR yd_l wd_l pc_l tc_l bl_l tm_l (upd ya_l (Int32.toNatClampNeg v2) (oya (Int32.toNatClampNeg v2))) (upd pa_l (Int32.toNatClampNeg v2) (opa (Int32.toNatClampNeg v2))) (upd sa_l (Int32.toNatClampNeg v2) (osa (Int32.toNatClampNeg v2))) ta_l tr oyd owd opc otc obl otm oya opa osa ota otr ++ va_pl LP (tg tk tf th)) H := hP
        have hD : va_D A (W_lane2 cI cT L Y P S T R oL oY oP oS oT oR yd_l wd_l pc_l tc_l bl_l tm_l (upd ya_l (Int32.toNatClampNeg v2) (oya (Int32.toNatClampNeg v2))) (upd pa_l (Int32.toNatClampNeg v2) (opa (Int32.toNatClampNeg v2))) (upd sa_l (Int32.toNatClampNeg v2) (osa (Int32.toNatClampNeg v2))) ta_l tr oyd owd opc otc obl otm oya opa osa ota otr ++ va_pl LP (tg tk tf th)) := hD
        refine lv_aload_n hx hb dX0_copyFrom_91 rfl (lv_at hl 0 rfl) ?_
        refine gf_X0_9 (v := .ref T) hx hb ht hown hK hP 0 rfl (ht _ wm_43) rfl dX0_copyFrom_92 ?_
        refine lv_iload_n hx hb dX0_copyFrom_95 rfl (lv_at hl 2 rfl) ?_
        refine lv_aload_n hx hb dX0_copyFrom_96 rfl (lv_at hl 1 rfl) ?_
        refine gf_X0_9 (v := .ref oT) hx hb ht hown hK hP 6 rfl (ht _ wm_43) rfl dX0_copyFrom_97 ?_
        refine lv_iload_n hx hb dX0_copyFrom_100 rfl (lv_at hl 2 rfl) ?_
        refine va_iald hx hb hK hP 10 0 rfl rfl (vp_of (by have zl_0 : (5 : Int32).toInt = 5 := (by decide); have q_c52 := mt Int32.le_iff_toInt_le.mpr c52; have i_c52 := inc_nle c52; omega)) dX0_copyFrom_101 ?_
        refine va_iast hx hb hK hP hD hS 4 0 rfl rfl (vp_of (by have zl_0 : (5 : Int32).toInt = 5 := (by decide); have q_c52 := mt Int32.le_iff_toInt_le.mpr c52; have i_c52 := inc_nle c52; omega)) dX0_copyFrom_102 (fun H locs hP hD hS => ?_)
        have hP : va_P (dC, dI) vwCl (W_lane2 cI cT L Y P S T R oL oY oP oS oT oR yd_l wd_l pc_l tc_l bl_l tm_l (upd ya_l (Int32.toNatClampNeg v2) (oya (Int32.toNatClampNeg v2))) (upd pa_l (Int32.toNatClampNeg v2) (opa (Int32.toNatClampNeg v2))) (upd sa_l (Int32.toNatClampNeg v2) (osa (Int32.toNatClampNeg v2))) (upd ta_l (Int32.toNatClampNeg v2) (ota (Int32.toNatClampNeg v2))) tr oyd owd opc otc obl otm oya opa osa ota otr ++ va_pl LP (tg tk tf th)) H := hP
        have hD : va_D A (W_lane2 cI cT L Y P S T R oL oY oP oS oT oR yd_l wd_l pc_l tc_l bl_l tm_l (upd ya_l (Int32.toNatClampNeg v2) (oya (Int32.toNatClampNeg v2))) (upd pa_l (Int32.toNatClampNeg v2) (opa (Int32.toNatClampNeg v2))) (upd sa_l (Int32.toNatClampNeg v2) (osa (Int32.toNatClampNeg v2))) (upd ta_l (Int32.toNatClampNeg v2) (ota (Int32.toNatClampNeg v2))) tr oyd owd opc otc obl otm oya opa osa ota otr ++ va_pl LP (tg tk tf th)) := hD
        refine lv_iinc (v := (v2 + (1 : Int32))) (lv' := [(2, .int (v2 + (1 : Int32))), (0, .ref L), (1, .ref oL)]) hx hb dX0_copyFrom_103 hl (k := 2) rfl (by rfl) (by decide) rfl (fun ls hl => ?_)
        refine lv_goto (tgt := 50) hx hb dX0_copyFrom_106 (by decide) ?_
        exact ih_50 (v2 + (1 : Int32)) yd_l wd_l pc_l tc_l bl_l tm_l (upd ya_l (Int32.toNatClampNeg v2) (oya (Int32.toNatClampNeg v2))) (upd pa_l (Int32.toNatClampNeg v2) (opa (Int32.toNatClampNeg v2))) (upd sa_l (Int32.toNatClampNeg v2) (osa (Int32.toNatClampNeg v2))) (upd ta_l (Int32.toNatClampNeg v2) (ota (Int32.toNatClampNeg v2))) _ _ _ (by have zl_0 : (1 : Int32).toInt = 1 := (by decide); have zl_1 : (5 : Int32).toInt = 5 := (by decide); have q_c52 := mt Int32.le_iff_toInt_le.mpr c52; have i_c52 := inc_nle c52; omega) (by have zl_0 : (1 : Int32).toInt = 1 := (by decide); have zl_1 : (5 : Int32).toInt = 5 := (by decide); have q_c52 := mt Int32.le_iff_toInt_le.mpr c52; have i_c52 := inc_nle c52; omega) (lv_sub hl [1, 2, 0] rfl) hP hD hS hF
  refine lv_aload_n hx hb dX0_copyFrom_0 rfl (lv_at hl 0 rfl) ?_
  refine lv_aload_n hx hb dX0_copyFrom_1 rfl (lv_at hl 1 rfl) ?_
  refine gf_X0_0 (v := .int oyd) hx hb ht hown hK hP 6 rfl (ht _ wm_34) rfl dX0_copyFrom_2 ?_
  refine pf_X0_0 (v := .int oyd) hx hb ht hown hK hP hD hS 0 rfl (ht _ wm_34) rfl rfl (Nat.le_of_ble_eq_true rfl) dX0_copyFrom_5 (fun H locs hP hD hS => ?_)
  have hP : va_P (dC, dI) vwCl (W_lane2 cI cT L Y P S T R oL oY oP oS oT oR oyd wd pc tc bl tm ya pa sa ta tr oyd owd opc otc obl otm oya opa osa ota otr ++ va_pl LP (tg tk tf th)) H := hP
  have hD : va_D A (W_lane2 cI cT L Y P S T R oL oY oP oS oT oR oyd wd pc tc bl tm ya pa sa ta tr oyd owd opc otc obl otm oya opa osa ota otr ++ va_pl LP (tg tk tf th)) := hD
  refine lv_aload_n hx hb dX0_copyFrom_8 rfl (lv_at hl 0 rfl) ?_
  refine lv_aload_n hx hb dX0_copyFrom_9 rfl (lv_at hl 1 rfl) ?_
  refine gf_X0_1 (v := .int owd) hx hb ht hown hK hP 6 rfl (ht _ wm_35) rfl dX0_copyFrom_10 ?_
  refine pf_X0_1 (v := .int owd) hx hb ht hown hK hP hD hS 0 rfl (ht _ wm_35) rfl rfl (Nat.le_of_ble_eq_true rfl) dX0_copyFrom_13 (fun H locs hP hD hS => ?_)
  have hP : va_P (dC, dI) vwCl (W_lane2 cI cT L Y P S T R oL oY oP oS oT oR oyd owd pc tc bl tm ya pa sa ta tr oyd owd opc otc obl otm oya opa osa ota otr ++ va_pl LP (tg tk tf th)) H := hP
  have hD : va_D A (W_lane2 cI cT L Y P S T R oL oY oP oS oT oR oyd owd pc tc bl tm ya pa sa ta tr oyd owd opc otc obl otm oya opa osa ota otr ++ va_pl LP (tg tk tf th)) := hD
  refine lv_aload_n hx hb dX0_copyFrom_16 rfl (lv_at hl 0 rfl) ?_
  refine lv_aload_n hx hb dX0_copyFrom_17 rfl (lv_at hl 1 rfl) ?_
  refine gf_X0_2 (v := .int opc) hx hb ht hown hK hP 6 rfl (ht _ wm_36) rfl dX0_copyFrom_18 ?_
  refine pf_X0_2 (v := .int opc) hx hb ht hown hK hP hD hS 0 rfl (ht _ wm_36) rfl rfl (Nat.le_of_ble_eq_true rfl) dX0_copyFrom_21 (fun H locs hP hD hS => ?_)
  have hP : va_P (dC, dI) vwCl (W_lane2 cI cT L Y P S T R oL oY oP oS oT oR oyd owd opc tc bl tm ya pa sa ta tr oyd owd opc otc obl otm oya opa osa ota otr ++ va_pl LP (tg tk tf th)) H := hP
  have hD : va_D A (W_lane2 cI cT L Y P S T R oL oY oP oS oT oR oyd owd opc tc bl tm ya pa sa ta tr oyd owd opc otc obl otm oya opa osa ota otr ++ va_pl LP (tg tk tf th)) := hD
  refine lv_aload_n hx hb dX0_copyFrom_24 rfl (lv_at hl 0 rfl) ?_
  refine lv_aload_n hx hb dX0_copyFrom_25 rfl (lv_at hl 1 rfl) ?_
  refine gf_X0_3 (v := .int otc) hx hb ht hown hK hP 6 rfl (ht _ wm_37) rfl dX0_copyFrom_26 ?_
  refine pf_X0_3 (v := .int otc) hx hb ht hown hK hP hD hS 0 rfl (ht _ wm_37) rfl rfl (Nat.le_of_ble_eq_true rfl) dX0_copyFrom_29 (fun H locs hP hD hS => ?_)
  have hP : va_P (dC, dI) vwCl (W_lane2 cI cT L Y P S T R oL oY oP oS oT oR oyd owd opc otc bl tm ya pa sa ta tr oyd owd opc otc obl otm oya opa osa ota otr ++ va_pl LP (tg tk tf th)) H := hP
  have hD : va_D A (W_lane2 cI cT L Y P S T R oL oY oP oS oT oR oyd owd opc otc bl tm ya pa sa ta tr oyd owd opc otc obl otm oya opa osa ota otr ++ va_pl LP (tg tk tf th)) := hD
  refine lv_aload_n hx hb dX0_copyFrom_32 rfl (lv_at hl 0 rfl) ?_
  refine lv_aload_n hx hb dX0_copyFrom_33 rfl (lv_at hl 1 rfl) ?_
  refine gf_X0_4 (v := .int obl) hx hb ht hown hK hP 6 rfl (ht _ wm_38) rfl dX0_copyFrom_34 ?_
  refine pf_X0_4 (v := .int obl) hx hb ht hown hK hP hD hS 0 rfl (ht _ wm_38) rfl rfl (Nat.le_of_ble_eq_true rfl) dX0_copyFrom_37 (fun H locs hP hD hS => ?_)
  have hP : va_P (dC, dI) vwCl (W_lane2 cI cT L Y P S T R oL oY oP oS oT oR oyd owd opc otc obl tm ya pa sa ta tr oyd owd opc otc obl otm oya opa osa ota otr ++ va_pl LP (tg tk tf th)) H := hP
  have hD : va_D A (W_lane2 cI cT L Y P S T R oL oY oP oS oT oR oyd owd opc otc obl tm ya pa sa ta tr oyd owd opc otc obl otm oya opa osa ota otr ++ va_pl LP (tg tk tf th)) := hD
  refine lv_aload_n hx hb dX0_copyFrom_40 rfl (lv_at hl 0 rfl) ?_
  refine lv_aload_n hx hb dX0_copyFrom_41 rfl (lv_at hl 1 rfl) ?_
  refine gf_X0_5 (v := .int otm) hx hb ht hown hK hP 6 rfl (ht _ wm_39) rfl dX0_copyFrom_42 ?_
  refine pf_X0_5 (v := .int otm) hx hb ht hown hK hP hD hS 0 rfl (ht _ wm_39) rfl rfl (Nat.le_of_ble_eq_true rfl) dX0_copyFrom_45 (fun H locs hP hD hS => ?_)
  have hP : va_P (dC, dI) vwCl (W_lane2 cI cT L Y P S T R oL oY oP oS oT oR oyd owd opc otc obl otm ya pa sa ta tr oyd owd opc otc obl otm oya opa osa ota otr ++ va_pl LP (tg tk tf th)) H := hP
  have hD : va_D A (W_lane2 cI cT L Y P S T R oL oY oP oS oT oR oyd owd opc otc obl otm ya pa sa ta tr oyd owd opc otc obl otm oya opa osa ota otr ++ va_pl LP (tg tk tf th)) := hD
  refine lv_iconst (v := (0 : Int32)) hx hb dX0_copyFrom_48 (by decide) ?_
  refine lv_istore_n (lv' := [(2, .int (0 : Int32)), (0, .ref L), (1, .ref oL)]) hx hb dX0_copyFrom_49 rfl hl (by decide) rfl (fun ls hl => ?_)
  exact K_50 6 (0 : Int32) oyd owd opc otc obl otm ya pa sa ta _ _ _ (by have zl_0 : (0 : Int32).toInt = 0 := (by decide); omega) (by have zl_0 : (0 : Int32).toInt = 0 := (by decide); omega) (lv_sub hl [1, 2, 0] rfl) hP hD hS hF
