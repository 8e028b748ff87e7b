theorem ofNatT {n : Nat} (h : n ≤ 2560) : (Int32.ofNat n).toInt = (n : Int) := Int32.toInt_ofNat_of_lt (by omega)
section LAW2
variable {p : Program} {l : Launch} {e : Env} {s : State} {m : MethodId} {below : List Frame} {meth : Method} {c : Code} {dC : Nat → ClassId} {dI : Nat → Nat → Nat} {cI cT : ClassId} {b L : Nat} {xs : Nat → Int32} {ad ae : Nat → Nat} {A : Nat → Prop} {xL : Nat} {wA : Nat} {fA : Nat} {nL : Nat} {nY : Nat} {nP : Nat} {nS : Nat} {nT : Nat} {nR : Nat} {mL : Nat} {mY : Nat} {mP : Nat} {mS : Nat} {mT : Nat} {mR : Nat} {kL : Nat} {kY : Nat} {kP : Nat} {kS : Nat} {kT : Nat} {kR : Nat} {gL : Nat} {gS : Nat} {oL : Nat} {zL : Nat} {z_refused : Nat} {z_place : Nat} {z_pace : Nat} {z_skillOf : Nat} {z_tired : Nat} {z_kind : Nat} {z_figure : Nat} {z_height : Nat} {z_tape : Nat} {z_letter : Nat} {z_letterAt : Nat} {z_told : Nat} {z_stored : Nat} {z_row : Nat}
set_option maxHeartbeats 4000000 in
set_option maxRecDepth 100000 in
theorem law_loop (hL : L ≤ 2560) (hx : p.tables.exec = Jvm.exec) (hb : c.code = cL_law) (hr : meth.sig.returnType = ret) (hlocks : meth.locks = false) (hml : c.maxLocals = 4) (hown : s.vm.findClass RL = some m.cls) (ht : ∀ w ∈ wsL_law, w.before #[Value.ref b] s = true) (hXs : va_X b L xs s s.heap) (hbl : b < s.heap.size) (hbA : ¬ A b) (hAs : ∀ q, A q → s.heap.size ≤ q) (hA : ∀ q, s.heap.size ≤ q → A q) (hK : va_K (dC, dI) vwCl (tysK cI cT) s) (hNS : NS s) (hX : GX ad ae A s) : ∀ (n : Nat) (v3 : Int32) (ik : Int32) (rz : Int32) (rw_ : Nat → Int32) (rf_ : Nat → Int32) (nyd : Int32) (nwd : Int32) (npc : Int32) (ntc : Int32) (nbl : Int32) (ntm : Int32) (nya : Nat → Int32) (npa : Nat → Int32) (nsa : Nat → Int32) (nta : Nat → Int32) (ntr : Nat → Option Nat) (myd : Int32) (mwd : Int32) (mpc : Int32) (mtc : Int32) (mbl : Int32) (mtm : Int32) (mya : Nat → Int32) (mpa : Nat → Int32) (msa : Nat → Int32) (mta : Nat → Int32) (mtr : Nat → Option Nat) (kyd : Int32) (kwd : Int32) (kpc : Int32) (ktc : Int32) (kbl : Int32) (ktm : Int32) (kya : Nat → Int32) (kpa : Nat → Int32) (ksa : Nat → Int32) (kta : Nat → Int32) (ktr : Nat → Option Nat) (lz : Int32) (lq : Int32) (ls_ : Nat → Int32) (oa : Int64) (ob : Int64) (m_yards : Int32) (m_wind : Int32) (m_players : Int32) (m_touches : Int32) (m_holder : Int32) (m_kept : Int32) (m_taped : Int32) (m_at : Int32) (m_statements : Int32) (m_hasImage : Int32) (m_isKeeping : Int32) (m_cursor : Int32) (m_onUp : Int64) (m_onDown : Int64) (m_longMany : Int32) (m_longLeast : Int32) (m_rowMany : Int32) (m_lots : Int32) (m_refused : Nat → Int32) (m_place : Nat → Int32) (m_pace : Nat → Int32) (m_skillOf : Nat → Int32) (m_tired : Nat → Int32) (m_kind : Nat → Int32) (m_figure : Nat → Int32) (m_height : Nat → Int32) (m_tape : Nat → Int32) (m_letter : Nat → Int32) (m_letterAt : Nat → Int32) (m_told : Nat → Int32) (m_stored : Nat → Int32) (m_row : Nat → Int32) (LP : List Nat) (tk tf th : Nat → Int32) (H : Heap) (locs : List Loc) (ls : Array Slot), (L : Int) - v3.toInt < n → 0 ≤ v3.toInt → v3.toInt ≤ 2560 → Inv ik rz rw_ rf_ nyd nwd npc ntc nbl ntm nya npa nsa nta ntr myd mwd mpc mtc mbl mtm mya mpa msa mta mtr kyd kwd kpc ktc kbl ktm kya kpa ksa kta ktr lz lq ls_ oa ob m_yards m_wind m_players m_touches m_holder m_kept m_taped m_at m_statements m_hasImage m_isKeeping m_cursor m_onUp m_onDown m_longMany m_longLeast m_rowMany m_lots m_refused m_place m_pace m_skillOf m_tired m_kind m_figure m_height m_tape m_letter m_letterAt m_told m_stored m_row LP tk tf th → lv_has ls 4 [(3, .int v3), (0, .ref b), (1, .ref xL), (2, .ref zL)] → va_P (dC, dI) vwCl (W_law cI cT xL wA fA nL nY nP nS nT nR mL mY mP mS mT mR kL kY kP kS kT kR gL gS oL zL z_refused z_place z_pace z_skillOf z_tired z_kind z_figure z_height z_tape z_letter z_letterAt z_told z_stored z_row ik rz rw_ rf_ nyd nwd npc ntc nbl ntm nya npa nsa nta ntr myd mwd mpc mtc mbl mtm mya mpa msa mta mtr kyd kwd kpc ktc kbl ktm kya kpa ksa kta ktr lz lq ls_ oa ob m_yards m_wind m_players m_touches m_holder m_kept m_taped m_at m_statements m_hasImage m_isKeeping m_cursor m_onUp m_onDown m_longMany m_longLeast m_rowMany m_lots m_refused m_place m_pace m_skillOf m_tired m_kind m_figure m_height m_tape m_letter m_letterAt m_told m_stored m_row ++ va_pl LP (tg tk tf th)) H → va_D A (W_law cI cT xL wA fA nL nY nP nS nT nR mL mY mP mS mT mR kL kY kP kS kT kR gL gS oL zL z_refused z_place z_pace z_skillOf z_tired z_kind z_figure z_height z_tape z_letter z_letterAt z_told z_stored z_row ik rz rw_ rf_ nyd nwd npc ntc nbl ntm nya npa nsa nta ntr myd mwd mpc mtc mbl mtm mya mpa msa mta mtr kyd kwd kpc ktc kbl ktm kya kpa ksa kta ktr lz lq ls_ oa ob m_yards m_wind m_players m_touches m_holder m_kept m_taped m_at m_statements m_hasImage m_isKeeping m_cursor m_onUp m_onDown m_longMany m_longLeast m_rowMany m_lots m_refused m_place m_pace m_skillOf m_tired m_kind m_figure m_height m_tape m_letter m_letterAt m_told m_stored m_row ++ va_pl LP (tg tk tf th)) → va_S A s.heap H locs → W p l e room_1 s m #[Value.ref b] below meth c H locs (42 + 16 * v3.toInt.toNat) (684 + 48 * v3.toInt.toNat) (lw_Z below #[Value.ref b] s) (F0 m 18 ls []) := by
  intro n
  induction n with
  | zero =>
    intro v3 ik rz rw_ rf_ nyd nwd npc ntc nbl ntm nya npa nsa nta ntr myd mwd mpc mtc mbl mtm mya mpa msa mta mtr kyd kwd kpc ktc kbl ktm kya kpa ksa kta ktr lz lq ls_ oa ob m_yards m_wind m_players m_touches m_holder m_kept m_taped m_at m_statements m_hasImage m_isKeeping m_cursor m_onUp m_onDown m_longMany m_longLeast m_rowMany m_lots m_refused m_place m_pace m_skillOf m_tired m_kind m_figure m_height m_tape m_letter m_letterAt m_told m_stored m_row LP tk tf th H locs ls hm h0 hb3 I hl hP hD hS
    have zL5 : (5 : Int32).toInt = 5 := rfl
    have eL : (Int32.ofNat L).toInt = (L : Int) := ofNatT hL
    have eS : (Int32.ofNat L - (5 : Int32)).toInt = (L : Int) - 5 := by have h := ts32 (x := Int32.ofNat L) (y := (5 : Int32)) (by omega) (by omega); omega
    refine lv_iload_n hx hb dL_law_18 rfl (lv_at hl 0 rfl) ?_
    refine lv_aload_n hx hb dL_law_19 rfl (lv_at hl 1 rfl) ?_
    refine va_slen hx hb hXs hbl hbA hS dL_law_20 ?_
    refine lv_iconst (v := (5 : Int32)) hx hb dL_law_21 (by decide) ?_
    refine lv_isub hx hb dL_law_22 ?_
    refine lv_icmp_gt (tgt := 871) hx hb dL_law_23 (by decide) (fun _ => ?_) (fun cc => absurd (Int32.lt_iff_toInt_lt.mpr (by omega)) cc)
    refine lv_iconst (v := (1 : Int32)) hx hb dL_law_871 (by decide) ?_
    refine va_forget (fun q hq => hAs _ (hS.2.2 q hq)) ?_
    refine W.widen (k := 600000) (n := 7302250) (by omega) (by omega) ?_
    exact lw_ret hx hb hr hlocks dL_law_872
  | succ n ih =>
    intro v3 ik rz rw_ rf_ nyd nwd npc ntc nbl ntm nya npa nsa nta ntr myd mwd mpc mtc mbl mtm mya mpa msa mta mtr kyd kwd kpc ktc kbl ktm kya kpa ksa kta ktr lz lq ls_ oa ob m_yards m_wind m_players m_touches m_holder m_kept m_taped m_at m_statements m_hasImage m_isKeeping m_cursor m_onUp m_onDown m_longMany m_longLeast m_rowMany m_lots m_refused m_place m_pace m_skillOf m_tired m_kind m_figure m_height m_tape m_letter m_letterAt m_told m_stored m_row LP tk tf th H locs ls hm h0 hb3 I hl hP hD hS
    have zL5 : (5 : Int32).toInt = 5 := rfl
    have eL : (Int32.ofNat L).toInt = (L : Int) := ofNatT hL
    have eS : (Int32.ofNat L - (5 : Int32)).toInt = (L : Int) - 5 := by have h := ts32 (x := Int32.ofNat L) (y := (5 : Int32)) (by omega) (by omega); omega
    refine lv_iload_n hx hb dL_law_18 rfl (lv_at hl 0 rfl) ?_
    refine lv_aload_n hx hb dL_law_19 rfl (lv_at hl 1 rfl) ?_
    refine va_slen hx hb hXs hbl hbA hS dL_law_20 ?_
    refine lv_iconst (v := (5 : Int32)) hx hb dL_law_21 (by decide) ?_
    refine lv_isub hx hb dL_law_22 ?_
    refine lv_icmp_gt (tgt := 871) hx hb dL_law_23 (by decide) (fun _ => ?_) (fun cc => ?_)
    · refine lv_iconst (v := (1 : Int32)) hx hb dL_law_871 (by decide) ?_
      refine va_forget (fun q hq => hAs _ (hS.2.2 q hq)) ?_
      refine W.widen (k := 600000) (n := 7302250) (by omega) (by omega) ?_
      exact lw_ret hx hb hr hlocks dL_law_872
    have q3 : v3.toInt + 5 ≤ (L : Int) := by have q := mt Int32.lt_iff_toInt_lt.mpr cc; omega
    have hi5 : (v3 + (5 : Int32)).toInt = v3.toInt + 5 := by have h := ta32 (x := v3) (y := (5 : Int32)) (by omega) (by omega); omega
    have h1 : vp_in (v3 + (1 : Int32)) L := vp_of (by have z : (1 : Int32).toInt = 1 := rfl; have h := ta32 (x := v3) (y := (1 : Int32)) (by omega) (by omega); omega)
    have h2 : vp_in (v3 + (2 : Int32)) L := vp_of (by have z : (2 : Int32).toInt = 2 := rfl; have h := ta32 (x := v3) (y := (2 : Int32)) (by omega) (by omega); omega)
    have h3 : vp_in (v3 + (3 : Int32)) L := vp_of (by have z : (3 : Int32).toInt = 3 := rfl; have h := ta32 (x := v3) (y := (3 : Int32)) (by omega) (by omega); omega)
    have h4 : vp_in (v3 + (4 : Int32)) L := vp_of (by have z : (4 : Int32).toInt = 4 := rfl; have h := ta32 (x := v3) (y := (4 : Int32)) (by omega) (by omega); omega)
    have hv3 : 0 ≤ v3.toInt ∧ v3.toInt ≤ 2560 := ⟨h0, hb3⟩
    have K : ∀ (ik_k : Int32) (rz_k : Int32) (rw__k : Nat → Int32) (rf__k : Nat → Int32) (nyd_k : Int32) (nwd_k : Int32) (npc_k : Int32) (ntc_k : Int32) (nbl_k : Int32) (ntm_k : Int32) (nya_k : Nat → Int32) (npa_k : Nat → Int32) (nsa_k : Nat → Int32) (nta_k : Nat → Int32) (ntr_k : Nat → Option Nat) (myd_k : Int32) (mwd_k : Int32) (mpc_k : Int32) (mtc_k : Int32) (mbl_k : Int32) (mtm_k : Int32) (mya_k : Nat → Int32) (mpa_k : Nat → Int32) (msa_k : Nat → Int32) (mta_k : Nat → Int32) (mtr_k : Nat → Option Nat) (kyd_k : Int32) (kwd_k : Int32) (kpc_k : Int32) (ktc_k : Int32) (kbl_k : Int32) (ktm_k : Int32) (kya_k : Nat → Int32) (kpa_k : Nat → Int32) (ksa_k : Nat → Int32) (kta_k : Nat → Int32) (ktr_k : Nat → Option Nat) (lz_k : Int32) (lq_k : Int32) (ls__k : Nat → Int32) (oa_k : Int64) (ob_k : Int64) (m_yards_k : Int32) (m_wind_k : Int32) (m_players_k : Int32) (m_touches_k : Int32) (m_holder_k : Int32) (m_kept_k : Int32) (m_taped_k : Int32) (m_at_k : Int32) (m_statements_k : Int32) (m_hasImage_k : Int32) (m_isKeeping_k : Int32) (m_cursor_k : Int32) (m_onUp_k : Int64) (m_onDown_k : Int64) (m_longMany_k : Int32) (m_longLeast_k : Int32) (m_rowMany_k : Int32) (m_lots_k : Int32) (m_refused_k : Nat → Int32) (m_place_k : Nat → Int32) (m_pace_k : Nat → Int32) (m_skillOf_k : Nat → Int32) (m_tired_k : Nat → Int32) (m_kind_k : Nat → Int32) (m_figure_k : Nat → Int32) (m_height_k : Nat → Int32) (m_tape_k : Nat → Int32) (m_letter_k : Nat → Int32) (m_letterAt_k : Nat → Int32) (m_told_k : Nat → Int32) (m_stored_k : Nat → Int32) (m_row_k : Nat → Int32) (LP_k : List Nat) (tk_k tf_k th_k : Nat → Int32) (H : Heap) (locs : List Loc) (ls : Array Slot), Inv ik_k rz_k rw__k rf__k nyd_k nwd_k npc_k ntc_k nbl_k ntm_k nya_k npa_k nsa_k nta_k ntr_k myd_k mwd_k mpc_k mtc_k mbl_k mtm_k mya_k mpa_k msa_k mta_k mtr_k kyd_k kwd_k kpc_k ktc_k kbl_k ktm_k kya_k kpa_k ksa_k kta_k ktr_k lz_k lq_k ls__k oa_k ob_k m_yards_k m_wind_k m_players_k m_touches_k m_holder_k m_kept_k m_taped_k m_at_k m_statements_k m_hasImage_k m_isKeeping_k m_cursor_k m_onUp_k m_onDown_k m_longMany_k m_longLeast_k m_rowMany_k m_lots_k m_refused_k m_place_k m_pace_k m_skillOf_k m_tired_k m_kind_k m_figure_k m_height_k m_tape_k m_letter_k m_letterAt_k m_told_k m_stored_k m_row_k LP_k tk_k tf_k th_k → lv_has ls 4 [(3, .int v3), (0, .ref b), (1, .ref xL), (2, .ref zL)] → va_P (dC, dI) vwCl (W_law cI cT xL wA fA nL nY nP nS nT nR mL mY mP mS mT mR kL kY kP kS kT kR gL gS oL zL z_refused z_place z_pace z_skillOf z_tired z_kind z_figure z_height z_tape z_letter z_letterAt z_told z_stored z_row ik_k rz_k rw__k rf__k nyd_k nwd_k npc_k ntc_k nbl_k ntm_k nya_k npa_k nsa_k nta_k ntr_k myd_k mwd_k mpc_k mtc_k mbl_k mtm_k mya_k mpa_k msa_k mta_k mtr_k kyd_k kwd_k kpc_k ktc_k kbl_k ktm_k kya_k kpa_k ksa_k kta_k ktr_k lz_k lq_k ls__k oa_k ob_k m_yards_k m_wind_k m_players_k m_touches_k m_holder_k m_kept_k m_taped_k m_at_k m_statements_k m_hasImage_k m_isKeeping_k m_cursor_k m_onUp_k m_onDown_k m_longMany_k m_longLeast_k m_rowMany_k m_lots_k m_refused_k m_place_k m_pace_k m_skillOf_k m_tired_k m_kind_k m_figure_k m_height_k m_tape_k m_letter_k m_letterAt_k m_told_k m_stored_k m_row_k ++ va_pl LP_k (tg tk_k tf_k th_k)) H → va_D A (W_law cI cT xL wA fA nL nY nP nS nT nR mL mY mP mS mT mR kL kY kP kS kT kR gL gS oL zL z_refused z_place z_pace z_skillOf z_tired z_kind z_figure z_height z_tape z_letter z_letterAt z_told z_stored z_row ik_k rz_k rw__k rf__k nyd_k nwd_k npc_k ntc_k nbl_k ntm_k nya_k npa_k nsa_k nta_k ntr_k myd_k mwd_k mpc_k mtc_k mbl_k mtm_k mya_k mpa_k msa_k mta_k mtr_k kyd_k kwd_k kpc_k ktc_k kbl_k ktm_k kya_k kpa_k ksa_k kta_k ktr_k lz_k lq_k ls__k oa_k ob_k m_yards_k m_wind_k m_players_k m_touches_k m_holder_k m_kept_k m_taped_k m_at_k m_statements_k m_hasImage_k m_isKeeping_k m_cursor_k m_onUp_k m_onDown_k m_longMany_k m_longLeast_k m_rowMany_k m_lots_k m_refused_k m_place_k m_pace_k m_skillOf_k m_tired_k m_kind_k m_figure_k m_height_k m_tape_k m_letter_k m_letterAt_k m_told_k m_stored_k m_row_k ++ va_pl LP_k (tg tk_k tf_k th_k)) → va_S A s.heap H locs → W p l e room_1 s m #[Value.ref b] below meth c H locs (42 + 16 * v3.toInt.toNat + 80) (684 + 48 * v3.toInt.toNat + 240) (lw_Z below #[Value.ref b] s) (F0 m 865 ls []) := by
      intro ik_k rz_k rw__k rf__k nyd_k nwd_k npc_k ntc_k nbl_k ntm_k nya_k npa_k nsa_k nta_k ntr_k myd_k mwd_k mpc_k mtc_k mbl_k mtm_k mya_k mpa_k msa_k mta_k mtr_k kyd_k kwd_k kpc_k ktc_k kbl_k ktm_k kya_k kpa_k ksa_k kta_k ktr_k lz_k lq_k ls__k oa_k ob_k m_yards_k m_wind_k m_players_k m_touches_k m_holder_k m_kept_k m_taped_k m_at_k m_statements_k m_hasImage_k m_isKeeping_k m_cursor_k m_onUp_k m_onDown_k m_longMany_k m_longLeast_k m_rowMany_k m_lots_k m_refused_k m_place_k m_pace_k m_skillOf_k m_tired_k m_kind_k m_figure_k m_height_k m_tape_k m_letter_k m_letterAt_k m_told_k m_stored_k m_row_k LP_k tk_k tf_k th_k H locs ls I hl hP hD hS
      refine lv_iinc (v := (v3 + (5 : Int32))) (lv' := [(3, .int (v3 + (5 : Int32))), (0, .ref b), (1, .ref xL), (2, .ref zL)]) hx hb dL_law_865 hl (k := 0) rfl (by rfl) (by decide) rfl (fun ls hl => ?_)
      refine lv_goto (tgt := 18) hx hb dL_law_868 (by decide) ?_
      refine W.widen (k := 42 + 16 * (v3 + (5 : Int32)).toInt.toNat) (n := 684 + 48 * (v3 + (5 : Int32)).toInt.toNat) (by omega) (by omega) ?_
      exact ih (v3 + (5 : Int32)) ik_k rz_k rw__k rf__k nyd_k nwd_k npc_k ntc_k nbl_k ntm_k nya_k npa_k nsa_k nta_k ntr_k myd_k mwd_k mpc_k mtc_k mbl_k mtm_k mya_k mpa_k msa_k mta_k mtr_k kyd_k kwd_k kpc_k ktc_k kbl_k ktm_k kya_k kpa_k ksa_k kta_k ktr_k lz_k lq_k ls__k oa_k ob_k m_yards_k m_wind_k m_players_k m_touches_k m_holder_k m_kept_k m_taped_k m_at_k m_statements_k m_hasImage_k m_isKeeping_k m_cursor_k m_onUp_k m_onDown_k m_longMany_k m_longLeast_k m_rowMany_k m_lots_k m_refused_k m_place_k m_pace_k m_skillOf_k m_tired_k m_kind_k m_figure_k m_height_k m_tape_k m_letter_k m_letterAt_k m_told_k m_stored_k m_row_k LP_k tk_k tf_k th_k H locs ls (by omega) (by omega) (by omega) I hl hP hD hS
    refine lv_aload_n hx hb dL_law_26 rfl (lv_at hl 1 rfl) ?_
    refine lv_iload_n hx hb dL_law_27 rfl (lv_at hl 0 rfl) ?_
    refine va_sld hx hb hXs hbl hbA hS (vp_of (by omega)) dL_law_28 ?_
    refine lv_bipush (v := (31 : Int32)) hx hb dL_law_29 (by decide) ?_
    refine lv_iand hx hb dL_law_31 ?_
    refine lv_topi (fun op _ => ?_)
    by_cases w0 : op = (0 : Int32)
    · refine lv_tableIn (tgt := 148) hx hb dL_law_32 (by rw [w0]; decide) (by rw [w0]; decide) (by rw [w0]; rfl) (by decide) ?_
      exact lc_feed hx hb hml hown ht hXs hbl hbA hA hK hNS hX hv3 h1 h2 h3 h4 I hl hP hD hS K
    by_cases w1 : op = (1 : Int32)
    · refine lv_tableIn (tgt := 171) hx hb dL_law_32 (by rw [w1]; decide) (by rw [w1]; decide) (by rw [w1]; rfl) (by decide) ?_
      exact lc_lane hx hb hml hown ht hXs hbl hbA hA hK hNS hX hv3 h1 h2 h3 h4 I hl hP hD hS K
    by_cases w2 : op = (2 : Int32)
    · refine lv_tableIn (tgt := 184) hx hb dL_law_32 (by rw [w2]; decide) (by rw [w2]; decide) (by rw [w2]; rfl) (by decide) ?_
      exact lc_player hx hb hml hown ht hXs hbl hbA hA hK hNS hX hv3 h1 h2 h3 h4 I hl hP hD hS K
    by_cases w3 : op = (3 : Int32)
    · refine lv_tableIn (tgt := 217) hx hb dL_law_32 (by rw [w3]; decide) (by rw [w3]; decide) (by rw [w3]; rfl) (by decide) ?_
      exact lc_touch hx hb hml hown ht hXs hbl hbA hA hK hNS hX hv3 h1 h2 h3 h4 I hl hP hD hS K
    by_cases w4 : op = (4 : Int32)
    · refine lv_tableIn (tgt := 250) hx hb dL_law_32 (by rw [w4]; decide) (by rw [w4]; decide) (by rw [w4]; rfl) (by decide) ?_
      exact lc_wind hx hb hml hown ht hXs hbl hbA hA hK hNS hX hv3 h1 h2 h3 h4 I hl hP hD hS K
    by_cases w5 : op = (5 : Int32)
    · refine lv_tableIn (tgt := 273) hx hb dL_law_32 (by rw [w5]; decide) (by rw [w5]; decide) (by rw [w5]; rfl) (by decide) ?_
      exact lc_move hx hb hml hown ht hXs hbl hbA hA hK hNS hX hv3 h1 h2 h3 h4 I hl hP hD hS K
    by_cases w6 : op = (6 : Int32)
    · refine lv_tableIn (tgt := 306) hx hb dL_law_32 (by rw [w6]; decide) (by rw [w6]; decide) (by rw [w6]; rfl) (by decide) ?_
      exact lc_give hx hb hml hown ht hXs hbl hbA hA hK hNS hX hv3 h1 h2 h3 h4 I hl hP hD hS K
    by_cases w7 : op = (7 : Int32)
    · refine lv_tableIn (tgt := 329) hx hb dL_law_32 (by rw [w7]; decide) (by rw [w7]; decide) (by rw [w7]; rfl) (by decide) ?_
      exact lc_skill hx hb hml hown ht hXs hbl hbA hA hK hNS hX hv3 h1 h2 h3 h4 I hl hP hD hS K
    by_cases w8 : op = (8 : Int32)
    · refine lv_tableIn (tgt := 362) hx hb dL_law_32 (by rw [w8]; decide) (by rw [w8]; decide) (by rw [w8]; rfl) (by decide) ?_
      exact lc_error hx hb hml hown ht hXs hbl hbA hA hK hNS hX hv3 h1 h2 h3 h4 I hl hP hD hS K
    by_cases w9 : op = (9 : Int32)
    · refine lv_tableIn (tgt := 405) hx hb dL_law_32 (by rw [w9]; decide) (by rw [w9]; decide) (by rw [w9]; rfl) (by decide) ?_
      exact lc_keep hx hb hml hown ht hXs hbl hbA hA hK hNS hX hv3 h1 h2 h3 h4 I hl hP hD hS K
    by_cases w10 : op = (10 : Int32)
    · refine lv_tableIn (tgt := 448) hx hb dL_law_32 (by rw [w10]; decide) (by rw [w10]; decide) (by rw [w10]; rfl) (by decide) ?_
      exact lc_again hx hb hml hown ht hXs hbl hbA hA hK hNS hX hv3 h1 h2 h3 h4 I hl hP hD hS K
    by_cases w11 : op = (11 : Int32)
    · refine lv_tableIn (tgt := 502) hx hb dL_law_32 (by rw [w11]; decide) (by rw [w11]; decide) (by rw [w11]; rfl) (by decide) ?_
      exact lc_best hx hb hml hown ht hXs hbl hbA hA hK hNS hX hv3 h1 h2 h3 h4 I hl hP hD hS K
    by_cases w12 : op = (12 : Int32)
    · refine lv_tableIn (tgt := 515) hx hb dL_law_32 (by rw [w12]; decide) (by rw [w12]; decide) (by rw [w12]; rfl) (by decide) ?_
      exact lc_on hx hb hml hown ht hXs hbl hbA hA hK hNS hX hv3 h1 h2 h3 h4 I hl hP hD hS K
    by_cases w13 : op = (13 : Int32)
    · refine lv_tableIn (tgt := 549) hx hb dL_law_32 (by rw [w13]; decide) (by rw [w13]; decide) (by rw [w13]; rfl) (by decide) ?_
      exact lc_stand hx hb hml hown ht hXs hbl hbA hA hK hNS hX hv3 h1 h2 h3 h4 I hl hP hD hS K
    by_cases w14 : op = (14 : Int32)
    · refine lv_tableIn (tgt := 582) hx hb dL_law_32 (by rw [w14]; decide) (by rw [w14]; decide) (by rw [w14]; rfl) (by decide) ?_
      exact lc_grows hx hb hml hown ht hXs hbl hbA hA hK hNS hX hv3 h1 h2 h3 h4 I hl hP hD hS K
    by_cases w15 : op = (15 : Int32)
    · refine lv_tableIn (tgt := 625) hx hb dL_law_32 (by rw [w15]; decide) (by rw [w15]; decide) (by rw [w15]; rfl) (by decide) ?_
      exact lc_worth hx hb hml hown ht hXs hbl hbA hA hK hNS hX hv3 h1 h2 h3 h4 I hl hP hD hS K
    by_cases w16 : op = (16 : Int32)
    · refine lv_tableIn (tgt := 638) hx hb dL_law_32 (by rw [w16]; decide) (by rw [w16]; decide) (by rw [w16]; rfl) (by decide) ?_
      exact lc_who hx hb hml hown ht hXs hbl hbA hA hK hNS hX hv3 h1 h2 h3 h4 I hl hP hD hS K
    by_cases w17 : op = (17 : Int32)
    · refine lv_tableIn (tgt := 661) hx hb dL_law_32 (by rw [w17]; decide) (by rw [w17]; decide) (by rw [w17]; rfl) (by decide) ?_
      exact lc_winds hx hb hml hown ht hXs hbl hbA hA hK hNS hX hv3 h1 h2 h3 h4 I hl hP hD hS K
    by_cases w18 : op = (18 : Int32)
    · refine lv_tableIn (tgt := 714) hx hb dL_law_32 (by rw [w18]; decide) (by rw [w18]; decide) (by rw [w18]; rfl) (by decide) ?_
      exact lc_longest hx hb hml hown ht hXs hbl hbA hA hK hNS hX hv3 h1 h2 h3 h4 I hl hP hD hS K
    by_cases w19 : op = (19 : Int32)
    · refine lv_tableIn (tgt := 747) hx hb dL_law_32 (by rw [w19]; decide) (by rw [w19]; decide) (by rw [w19]; rfl) (by decide) ?_
      exact lc_row hx hb hml hown ht hXs hbl hbA hA hK hNS hX hv3 h1 h2 h3 h4 I hl hP hD hS K
    by_cases w20 : op = (20 : Int32)
    · refine lv_tableIn (tgt := 770) hx hb dL_law_32 (by rw [w20]; decide) (by rw [w20]; decide) (by rw [w20]; rfl) (by decide) ?_
      exact lc_judge hx hb hml hown ht hXs hbl hbA hA hK hNS hX hv3 h1 h2 h3 h4 I hl hP hD hS K
    by_cases w21 : op = (21 : Int32)
    · refine lv_tableIn (tgt := 783) hx hb dL_law_32 (by rw [w21]; decide) (by rw [w21]; decide) (by rw [w21]; rfl) (by decide) ?_
      exact lc_seeds hx hb hml hown ht hXs hbl hbA hA hK hNS hX hv3 h1 h2 h3 h4 I hl hP hD hS K
    by_cases w22 : op = (22 : Int32)
    · refine lv_tableIn (tgt := 816) hx hb dL_law_32 (by rw [w22]; decide) (by rw [w22]; decide) (by rw [w22]; rfl) (by decide) ?_
      exact lc_image hx hb hml hown ht hXs hbl hbA hA hK hNS hX hv3 h1 h2 h3 h4 I hl hP hD hS K
    by_cases w23 : op = (23 : Int32)
    · refine lv_tableIn (tgt := 829) hx hb dL_law_32 (by rw [w23]; decide) (by rw [w23]; decide) (by rw [w23]; rfl) (by decide) ?_
      exact lc_restore hx hb hml hown ht hXs hbl hbA hA hK hNS hX hv3 h1 h2 h3 h4 I hl hP hD hS K
    by_cases w24 : op = (24 : Int32)
    · refine lv_tableIn (tgt := 842) hx hb dL_law_32 (by rw [w24]; decide) (by rw [w24]; decide) (by rw [w24]; rfl) (by decide) ?_
      exact lc_count hx hb hml hown ht hXs hbl hbA hA hK hNS hX hv3 h1 h2 h3 h4 I hl hP hD hS K
    refine lv_tableOut (tgt := 865) hx hb dL_law_32 (by have q_w0 := lv_neT w0 (a := 0) rfl; have q_w1 := lv_neT w1 (a := 1) rfl; have q_w2 := lv_neT w2 (a := 2) rfl; have q_w3 := lv_neT w3 (a := 3) rfl; have q_w4 := lv_neT w4 (a := 4) rfl; have q_w5 := lv_neT w5 (a := 5) rfl; have q_w6 := lv_neT w6 (a := 6) rfl; have q_w7 := lv_neT w7 (a := 7) rfl; have q_w8 := lv_neT w8 (a := 8) rfl; have q_w9 := lv_neT w9 (a := 9) rfl; have q_w10 := lv_neT w10 (a := 10) rfl; have q_w11 := lv_neT w11 (a := 11) rfl; have q_w12 := lv_neT w12 (a := 12) rfl; have q_w13 := lv_neT w13 (a := 13) rfl; have q_w14 := lv_neT w14 (a := 14) rfl; have q_w15 := lv_neT w15 (a := 15) rfl; have q_w16 := lv_neT w16 (a := 16) rfl; have q_w17 := lv_neT w17 (a := 17) rfl; have q_w18 := lv_neT w18 (a := 18) rfl; have q_w19 := lv_neT w19 (a := 19) rfl; have q_w20 := lv_neT w20 (a := 20) rfl; have q_w21 := lv_neT w21 (a := 21) rfl; have q_w22 := lv_neT w22 (a := 22) rfl; have q_w23 := lv_neT w23 (a := 23) rfl; have q_w24 := lv_neT w24 (a := 24) rfl; omega) (by decide) ?_
    refine W.widen (k := (42 + 16 * v3.toInt.toNat + 80)) (n := (684 + 48 * v3.toInt.toNat + 240)) (by omega) (by omega) ?_
    exact K ik rz rw_ rf_ nyd nwd npc ntc nbl ntm nya npa nsa nta ntr myd mwd mpc mtc mbl mtm mya mpa msa mta mtr kyd kwd kpc ktc kbl ktm kya kpa ksa kta ktr lz lq ls_ oa ob m_yards m_wind m_players m_touches m_holder m_kept m_taped m_at m_statements m_hasImage m_isKeeping m_cursor m_onUp m_onDown m_longMany m_longLeast m_rowMany m_lots m_refused m_place m_pace m_skillOf m_tired m_kind m_figure m_height m_tape m_letter m_letterAt m_told m_stored m_row LP tk tf th H locs ls I hl hP hD hS
end LAW2
