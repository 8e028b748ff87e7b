/-- the row of touches tr, by the pool, holds these values -/
def Rep (LP : List Nat) (tk tf th : Nat → Int32) (tr : Nat → Option Nat) (kv fv hv : Nat → Int32) : Prop := ∀ i, i < 6 → (tr i = some (tA tr i) ∧ tA tr i ∈ LP) ∧ tk (tA tr i) = kv i ∧ tf (tA tr i) = fv i ∧ th (tA tr i) = hv i
/-- the pool has only grown -/
def Grow (LP : List Nat) (tk tf th : Nat → Int32) (LP' : List Nat) (tk' tf' th' : Nat → Int32) : Prop := ∀ a, a ∈ LP → a ∈ LP' ∧ tk' a = tk a ∧ tf' a = tf a ∧ th' a = th a
abbrev Gp : Type := (Nat → Option Nat) × List Nat × (Nat → Int32) × (Nat → Int32) × (Nat → Int32)
abbrev Gp2 : Type := ((Nat → Option Nat) × (Nat → Option Nat)) × List Nat × (Nat → Int32) × (Nat → Int32) × (Nat → Int32)
theorem Grow.rfl (LP : List Nat) (tk tf th : Nat → Int32) : Grow LP tk tf th LP tk tf th := fun _ h => ⟨h, Eq.refl _, Eq.refl _, Eq.refl _⟩
theorem Grow.trans {LP LP' LP2 : List Nat} {tk tf th tk' tf' th' tk2 tf2 th2 : Nat → Int32} (h : Grow LP tk tf th LP' tk' tf' th') (h2 : Grow LP' tk' tf' th' LP2 tk2 tf2 th2) : Grow LP tk tf th LP2 tk2 tf2 th2 := fun a ha => by
  obtain ⟨a1, a2, a3, a4⟩ := h a ha
  obtain ⟨b1, b2, b3, b4⟩ := h2 a a1
  exact ⟨b1, b2.trans a2, b3.trans a3, b4.trans a4⟩
theorem Rep.grow {LP LP' : List Nat} {tk tf th tk' tf' th' : Nat → Int32} {tr : Nat → Option Nat} {kv fv hv : Nat → Int32} (h : Rep LP tk tf th tr kv fv hv) (hG : Grow LP tk tf th LP' tk' tf' th') : Rep LP' tk' tf' th' tr kv fv hv := fun i hi => by
  obtain ⟨⟨a0, a1⟩, a2, a3, a4⟩ := h i hi
  obtain ⟨b1, b2, b3, b4⟩ := hG _ a1
  exact ⟨⟨a0, b1⟩, b2.trans a2, b3.trans a3, b4.trans a4⟩
theorem Rep.T {LP : List Nat} {tk tf th : Nat → Int32} {tr : Nat → Option Nat} {kv fv hv : Nat → Int32} (h : Rep LP tk tf th tr kv fv hv) : ∀ i, i < 6 → tr i = some (tA tr i) ∧ tA tr i ∈ LP := fun i hi => (h i hi).1
theorem upd_self (f : Nat → Int32) (k : Nat) (x : Int32) : upd f k x k = x := by simp [upd]
theorem upd_ne (f : Nat → Int32) {k j : Nat} (x : Int32) (h : j ≠ k) : upd f k x j = f j := by simp [upd, h]
theorem Rep.push {LP : List Nat} {tk tf th : Nat → Int32} {tr : Nat → Option Nat} {kv fv hv : Nat → Int32} {n q : Nat} {v1 v2 v3 : Int32} (h : Rep LP tk tf th tr kv fv hv) (hq : q ∉ LP) : Rep (LP ++ [q]) (upd tk q v1) (upd tf q v2) (upd th q v3) (va_up tr n (some q)) (upd kv n v1) (upd fv n v2) (upd hv n v3) := fun i hi => by
  by_cases e : i = n
  · subst e
    have e1 : tA (va_up tr i (some q)) i = q := by simp [tA, va_up]
    rw [e1]
    exact ⟨⟨va_up_self _ _ _, by simp⟩, by rw [upd_self, upd_self], by rw [upd_self, upd_self], by rw [upd_self, upd_self]⟩
  · obtain ⟨⟨a0, a1⟩, a2, a3, a4⟩ := h i hi
    have e1 : va_up tr n (some q) i = tr i := va_up_ne _ _ e
    have e2 : tA (va_up tr n (some q)) i = tA tr i := by simp [tA, e1]
    have e3 : tA tr i ≠ q := fun z => hq (z ▸ a1)
    rw [e2, e1, upd_ne _ _ e3, upd_ne _ _ e3, upd_ne _ _ e3, upd_ne _ _ e, upd_ne _ _ e, upd_ne _ _ e]
    exact ⟨⟨a0, List.mem_append_left _ a1⟩, a2, a3, a4⟩
theorem Grow.push {LP : List Nat} {tk tf th : Nat → Int32} {q : Nat} {v1 v2 v3 : Int32} (hq : q ∉ LP) : Grow LP tk tf th (LP ++ [q]) (upd tk q v1) (upd tf q v2) (upd th q v3) := fun a ha => by
  have e3 : a ≠ q := fun z => hq (z ▸ ha)
  exact ⟨List.mem_append_left _ ha, upd_ne _ _ e3, upd_ne _ _ e3, upd_ne _ _ e3⟩
theorem at_end {pl : va_W} {x : Nat × va_E} : (pl ++ [x])[pl.length]? = some x := by simp
theorem set_end {pl : va_W} {x y : Nat × va_E} : (pl ++ [x]).set pl.length y = pl ++ [y] := by
  induction pl with
  | nil => rfl
  | cons a t ih =>
    show a :: ((t ++ [x]).set t.length y) = a :: (t ++ [y])
    rw [ih]
theorem end_fresh {A : Nat → Prop} {X : va_W} {LP : List Nat} {f : Nat → va_E} {q : Nat} {e : va_E} (hD : va_D A ((X ++ va_pl LP f) ++ [(q, e)])) : q ∉ LP := fun hq => by
  obtain ⟨k, hk⟩ := va_pl_get (X := X) (f := f) hq
  have hlt : k < (X ++ va_pl LP f).length := (List.getElem?_eq_some_iff.mp hk).1
  have h1 : ((X ++ va_pl LP f) ++ [(q, e)])[k]? = some (q, f q) := by rw [List.getElem?_append_left hlt]; exact hk
  have h2 := hD.1 k (X ++ va_pl LP f).length _ _ h1 at_end rfl
  omega
theorem pool_push {X : va_W} {LP : List Nat} {tk tf th : Nat → Int32} {q : Nat} {v1 v2 v3 : Int32} (hq : q ∉ LP) : (X ++ va_pl LP (tg tk tf th)) ++ [(q, .inr (3, [.int v1, .int v2, .int v3]))] = X ++ va_pl (LP ++ [q]) (tg (upd tk q v1) (upd tf q v2) (upd th q v3)) := by
  rw [List.append_assoc, va_pl_push hq]
  congr 1
  apply va_pl_congr
  intro a
  by_cases e : a = q
  · subst e
    rw [va_up_self]
    show _ = (.inr (3, [.int (upd tk a v1 a), .int (upd tf a v2 a), .int (upd th a v3 a)]) : va_E)
    rw [upd_self, upd_self, upd_self]
  · rw [va_up_ne _ _ e]
    show (.inr (3, [.int (tk a), .int (tf a), .int (th a)]) : va_E) = .inr (3, [.int (upd tk q v1 a), .int (upd tf q v2 a), .int (upd th q v3 a)])
    rw [upd_ne _ _ e, upd_ne _ _ e, upd_ne _ _ e]
section KG
variable {p : Program} {l : Launch} {e : Env} {R : Room} {s : State} {m : MethodId} {args : Array Value} {below : List Frame} {meth : Method} {c : Code} {H : Heap} {locs : List Loc} {cells slots : Nat} {Q : State → Prop}
variable {D : va_G} {mc ms : Nat} {A0 : Nat → Prop} {H0 : Heap} {pc : Nat} {ls : Array Slot} {rest st0 : List Value} {a : Array Value} {cx pl : va_W}
theorem kcG_i {S : Type} {post : Int32 → S → Prop} {rx pl1 : S → va_W} (hr : va_Run p l e R s m args below meth c H locs cells slots mc ms (F0 m pc ls st0) rest (va_Qi post (fun u t => cB D (va_A (cx ++ pl) H.size) (rx u ++ pl1 u) t) (va_A (cx ++ pl) H.size) a) (va_A (cx ++ pl) H.size))
    (hP : va_P D vwCl (cx ++ pl) H) (hD : va_D A0 (cx ++ pl)) (hS : va_S A0 H0 H locs) (hA : ∀ q, H0.size ≤ q → A0 q)
    (kk : ∀ (r : Int32) (u : S) (H1 : Heap) (locs1 : List Loc), post r u → va_P D vwCl (rx u ++ pl1 u) H1 → va_D A0 (rx u ++ pl1 u) → va_S A0 H0 H1 locs1 → W p l e R s m args below meth c H1 locs1 (cells + mc) (slots + ms) Q (F0 m (pc + 3) ls (.int r :: rest))) : W p l e R s m args below meth c H locs cells slots Q (F0 m pc ls st0) := by
  have hFc := kcF_free hD hS hA
  refine va_calli hr hS (fun q _ h => hFc q h) hFc (fun r u t H1 locs1 ht hvm hw hBB hz1 hk1 hS1 => ?_)
  obtain ⟨hP1, hD1⟩ := hBB
  rw [ht] at hP1
  exact kk r u H1 locs1 hw hP1 (hD1.weaken (fun k q _ h => hFc q.1 h)) hS1
theorem kcF_r {S : Type} {post : Nat → S → Prop} {rx pl1 : S → va_W} (hr : va_Run p l e R s m args below meth c H locs cells slots 0 0 (F0 m pc ls st0) rest (va_Qr (fun _ : S => True) (fun u a t => post a u ∧ cB D (va_A (cx ++ pl) H.size) (rx u ++ pl1 u) t) (va_A (cx ++ pl) H.size) a) (va_A (cx ++ pl) H.size))
    (hP : va_P D vwCl (cx ++ pl) H) (hD : va_D A0 (cx ++ pl)) (hS : va_S A0 H0 H locs) (hA : ∀ q, H0.size ≤ q → A0 q)
    (kk : ∀ (r : Nat) (u : S) (H1 : Heap) (locs1 : List Loc), post r u → va_P D vwCl (rx u ++ pl1 u) H1 → va_D A0 (rx u ++ pl1 u) → va_S A0 H0 H1 locs1 → W p l e R s m args below meth c H1 locs1 cells slots Q (F0 m (pc + 3) ls (.ref r :: rest))) : W p l e R s m args below meth c H locs cells slots Q (F0 m pc ls st0) := by
  have hFc := kcF_free hD hS hA
  refine va_callr hr hS (fun q _ h => hFc q h) hFc (fun u r t H1 locs1 ht hvm _ hBB hz1 hk1 hS1 => ?_)
  obtain ⟨hw, hP1, hD1⟩ := hBB
  rw [ht] at hP1
  exact kk r u H1 locs1 hw hP1 (hD1.weaken (fun k q _ h => hFc q.1 h)) hS1
end KG
/-- which text is due behind a first letter -/
def f_X1_formOf (v0 : Int32) : Nat := if v0 = 98 then 4 else if v0 = 112 then 2 else if v0 = 116 then 3 else if v0 = 119 then 1 else if v0 = 121 then 0 else 5
theorem formOf_lt (v0 : Int32) : f_X1_formOf v0 < 6 := by
  unfold f_X1_formOf
  (repeat' split) <;> omega
abbrev rm_X1_formOf : Room := { frames := 0, cells := 0, slots := 0, locals := 0 }
noncomputable abbrev wd_X1_formOf : List Cond := .code yX1_formOf cX1_formOf 1 (some (.object "java/lang/String")) :: wsL_law
set_option maxHeartbeats 4000000 in
set_option maxRecDepth 100000 in
theorem c_X1_formOf (ad ae : Nat → Nat) (l : Launch) (dC : Nat → ClassId) (dI : Nat → Nat → Nat) (cI cT : ClassId) (pl : va_W) (v0 : Int32) : CeR ad ae l (dC, dI) cI cT yX1_formOf wd_X1_formOf rm_X1_formOf [.int v0] (([] : va_W) ++ pl) (fun (r : Nat) (_ : Unit) => r = ad (f_X1_formOf v0)) (fun _ => ([] : va_W) ++ pl) 0 0 := by
  refine ct_re (C := "java/lang/String") (cc := cX1_formOf) (maxL := 1) (by decide) rfl (Nat.le_of_ble_eq_true rfl) ?_
  intro p e s m args below meth c A ls Q hx hb hml hts hown hmn hA hK hNS hX hP hD hS hl hret
  have hl : lv_has ls 1 [(0, .int v0)] := hl
  have hR := hX.2.1
  generalize hF : f_X1_formOf v0 = F at hret
  unfold f_X1_formOf at hF
  refine lv_iload_n hx hb dX1_formOf_0 rfl (lv_at hl 0 rfl) ?_
  by_cases w98 : v0 = (98 : Int32)
  · rw [if_pos w98] at hF
    refine lv_lookup (off := 63) (tgt := 64) hx hb dX1_formOf_1 (by decide) (by rw [w98]; first | done | rfl) (by decide) ?_
    subst hF
    refine va_ldcS hx hb hown (hR 4 (by decide)) dX1_formOf_64 ?_
    exact hret _ () _ _ _ _ rfl hP hD hS dX1_formOf_66
  · rw [if_neg w98] at hF
    by_cases w112 : v0 = (112 : Int32)
    · rw [if_pos w112] at hF
      refine lv_lookup (off := 57) (tgt := 58) hx hb dX1_formOf_1 (by decide) (by rw [w112]; first | done | rfl) (by decide) ?_
      subst hF
      refine va_ldcS hx hb hown (hR 2 (by decide)) dX1_formOf_58 ?_
      exact hret _ () _ _ _ _ rfl hP hD hS dX1_formOf_60
    · rw [if_neg w112] at hF
      by_cases w116 : v0 = (116 : Int32)
      · rw [if_pos w116] at hF
        refine lv_lookup (off := 60) (tgt := 61) hx hb dX1_formOf_1 (by decide) (by rw [w116]; first | done | rfl) (by decide) ?_
        subst hF
        refine va_ldcS hx hb hown (hR 3 (by decide)) dX1_formOf_61 ?_
        exact hret _ () _ _ _ _ rfl hP hD hS dX1_formOf_63
      · rw [if_neg w116] at hF
        by_cases w119 : v0 = (119 : Int32)
        · rw [if_pos w119] at hF
          refine lv_lookup (off := 54) (tgt := 55) hx hb dX1_formOf_1 (by decide) (by rw [w119]; first | done | rfl) (by decide) ?_
          subst hF
          refine va_ldcS hx hb hown (hR 1 (by decide)) dX1_formOf_55 ?_
          exact hret _ () _ _ _ _ rfl hP hD hS dX1_formOf_57
        · rw [if_neg w119] at hF
          by_cases w121 : v0 = (121 : Int32)
          · rw [if_pos w121] at hF
            refine lv_lookup (off := 51) (tgt := 52) hx hb dX1_formOf_1 (by decide) (by rw [w121]; first | done | rfl) (by decide) ?_
            subst hF
            refine va_ldcS hx hb hown (hR 0 (by decide)) dX1_formOf_52 ?_
            exact hret _ () _ _ _ _ rfl hP hD hS dX1_formOf_54
          · rw [if_neg w121] at hF
            refine lv_lookup (off := 66) (tgt := 67) hx hb dX1_formOf_1 (by decide) (by show Op.lookupswitch.offset [(98, 63), (112, 57), (116, 60), (119, 54), (121, 51)] 66 (Int32.toInt v0) = 66; rw [lv_osw (a := 98) w98 rfl, lv_osw (a := 112) w112 rfl, lv_osw (a := 116) w116 rfl, lv_osw (a := 119) w119 rfl, lv_osw (a := 121) w121 rfl]; first | done | rfl) (by decide) ?_
            subst hF
            refine va_ldcS hx hb hown (hR 5 (by decide)) dX1_formOf_67 ?_
            exact hret _ () _ _ _ _ rfl hP hD hS dX1_formOf_69
abbrev rm_X3_init : Room := { frames := 1, cells := 0, slots := 0, locals := 12 }
noncomputable abbrev wd_X3_init : List Cond := .code yX3_init cX3_init 4 none :: wsL_law
set_option maxHeartbeats 4000000 in
set_option maxRecDepth 100000 in
theorem c_X3_init (l : Launch) (dC : Nat → ClassId) (dI : Nat → Nat → Nat) (cI cT : ClassId) (pl : va_W) (aT : Nat) (v1 v2 v3 : Int32) : CtV l (dC, dI) cI cT yX3_init wd_X3_init rm_X3_init [.ref aT, .int v1, .int v2, .int v3] (pl ++ [(aT, .inr (3, [.int 0, .int 0, .int 0]))]) (fun (_ : Unit) => True) (fun _ => pl ++ [(aT, .inr (3, [.int v1, .int v2, .int v3]))]) 0 0 := by
  refine ct_v (cc := cX3_init) (maxL := 4) (by decide) rfl (Nat.le_of_ble_eq_true rfl) ?_
  intro p e s m args below meth c A ls Q hx hb hml hts hown hmn hA hK hNS hP hD hS hl hret
  have ht : ∀ w ∈ wsL_law, w.before args s = true := fun w h => hts w (List.mem_cons_of_mem _ h)
  have hl : lv_has ls 4 [(0, .ref aT), (1, .int v1), (2, .int v2), (3, .int v3)] := hl
  refine lv_aload_n hx hb dX3_init_0 rfl (lv_at hl 0 rfl) ?_
  refine W.objInit hx hb hown (ht _ wm_50) (ht _ wm_10) (ht _ wm_11) rfl (by rw [hml]; exact hl.1) rfl dX3_init_1 (Nat.le_of_ble_eq_true rfl) (Nat.le_of_ble_eq_true rfl) ?_
  refine W.eq (g2 := F0 m 4 ls []) rfl ?_
  refine lv_aload_n hx hb dX3_init_4 rfl (lv_at hl 0 rfl) ?_
  refine lv_iload_n hx hb dX3_init_5 rfl (lv_at hl 1 rfl) ?_
  refine va_putF (D := (dC, dI)) (ci := 3) (v := .int v1) (ty := .int) (C := RX3) (T := TX3) (N := 3) hx hb ht inlX3 tyX3 tyX3_ok nmX3 hown hK hP hD hS pl.length at_end rfl 0 (by decide) (ht _ wm_51) (fun _ h => h) rfl hmn rfl (by decide +kernel) rfl rfl (Nat.le_of_ble_eq_true rfl) dX3_init_6 (fun H locs hP hD hS => ?_)
  rw [set_end] at hP hD
  refine lv_aload_n hx hb dX3_init_9 rfl (lv_at hl 0 rfl) ?_
  refine lv_iload_n hx hb dX3_init_10 rfl (lv_at hl 2 rfl) ?_
  refine va_putF (D := (dC, dI)) (ci := 3) (v := .int v2) (ty := .int) (C := RX3) (T := TX3) (N := 3) hx hb ht inlX3 tyX3 tyX3_ok nmX3 hown hK hP hD hS pl.length at_end rfl 1 (by decide) (ht _ wm_52) (fun _ h => h) rfl hmn rfl (by decide +kernel) rfl rfl (Nat.le_of_ble_eq_true rfl) dX3_init_11 (fun H locs hP hD hS => ?_)
  rw [set_end] at hP hD
  refine lv_aload_n hx hb dX3_init_14 rfl (lv_at hl 0 rfl) ?_
  refine lv_iload_n hx hb dX3_init_15 rfl (lv_at hl 3 rfl) ?_
  refine va_putF (D := (dC, dI)) (ci := 3) (v := .int v3) (ty := .int) (C := RX3) (T := TX3) (N := 3) hx hb ht inlX3 tyX3 tyX3_ok nmX3 hown hK hP hD hS pl.length at_end rfl 2 (by decide) (ht _ wm_53) (fun _ h => h) rfl hmn rfl (by decide +kernel) rfl rfl (Nat.le_of_ble_eq_true rfl) dX3_init_16 (fun H locs hP hD hS => ?_)
  rw [set_end] at hP hD
  exact hret () _ _ _ _ trivial hP hD hS dX3_init_19
/-- a touch more, by values -/
def f_X0_addTouch (tc : Int32) (kv fv hv : Nat → Int32) (v1 v2 v3 : Int32) : Int32 × Int32 × (Nat → Int32) × (Nat → Int32) × (Nat → Int32) := if (6 : Int32) ≤ tc then (0, tc, kv, fv, hv) else if (5 : Int32) < v1 then (0, tc, kv, fv, hv) else if (1 : Int32) ≤ v3 then (1, tc + 1, upd kv tc.toNatClampNeg v1, upd fv tc.toNatClampNeg v2, upd hv tc.toNatClampNeg v3) else (0, tc, kv, fv, hv)
abbrev rm_X0_addTouch : Room := { frames := 2, cells := 1, slots := 3, locals := 40 }
noncomputable abbrev wd_X0_addTouch : List Cond := .code yX0_addTouch cX0_addTouch 4 (some .boolean) :: wsL_law
set_option maxHeartbeats 4000000 in
set_option maxRecDepth 100000 in
theorem c_X0_addTouch (l : Launch) (dC : Nat → ClassId) (dI : Nat → Nat → Nat) (cI cT : ClassId) (L Y P S T R : Nat) (yd wd pc tc bl tm : Int32) (ya pa sa ta : Nat → Int32) (tr : Nat → Option Nat) (LP : List Nat) (tk tf th : Nat → Int32) (v1 v2 v3 : Int32) (kv fv hv : Nat → Int32) (htc : 0 ≤ tc.toInt) (hRep : Rep LP tk tf th tr kv fv hv) : CtI l (dC, dI) cI cT yX0_addTouch wd_X0_addTouch rm_X0_addTouch [.ref L, .int v1, .int v2, .int v3] (W_lane cI cT L Y P S T R yd wd pc tc bl tm ya pa sa ta tr ++ va_pl LP (tg tk tf th)) (fun (r : Int32) (u : ((Int32) × (Nat → Int32) × (Nat → Int32) × (Nat → Int32)) × Gp) => f_X0_addTouch tc kv fv hv v1 v2 v3 = (r, u.1) ∧ (r = 0 ∨ r = 1) ∧ Rep u.2.2.1 u.2.2.2.1 u.2.2.2.2.1 u.2.2.2.2.2 u.2.1 u.1.2.1 u.1.2.2.1 u.1.2.2.2 ∧ Grow LP tk tf th u.2.2.1 u.2.2.2.1 u.2.2.2.2.1 u.2.2.2.2.2) (fun u => W_lane cI cT L Y P S T R yd wd pc u.1.1 bl tm ya pa sa ta u.2.1 ++ va_pl u.2.2.1 (tg u.2.2.2.1 u.2.2.2.2.1 u.2.2.2.2.2)) 1 3 := by
  refine ct_i (cc := cX0_addTouch) (maxL := 4) (by decide) rfl (Nat.le_of_ble_eq_true rfl) ?_
  intro p e s m args below meth c A ls Q hx hb hml hts hown hmn hA hK hNS hP hD hS hl hret
  have ht : ∀ w ∈ wsL_law, w.before args s = true := fun w h => hts w (List.mem_cons_of_mem _ h)
  have hl : lv_has ls 4 [(0, .ref L), (1, .int v1), (2, .int v2), (3, .int v3)] := hl
  have hno : f_X0_addTouch tc kv fv hv v1 v2 v3 = (0, tc, kv, fv, hv) → W p l e rm_X0_addTouch s m args below meth c s.heap [] 0 0 Q (F0 m 19 ls []) := by
    intro hf
    refine lv_iconst (v := (0 : Int32)) hx hb dX0_addTouch_19 (by decide) ?_
    refine W.widen (k := 1) (n := 3) (by decide) (by decide) ?_
    exact hret 0 ((tc, kv, fv, hv), tr, LP, tk, tf, th) _ _ _ _ ⟨hf, Or.inl rfl, hRep, Grow.rfl _ _ _ _⟩ rfl hP hD hS dX0_addTouch_20
  refine lv_aload_n hx hb dX0_addTouch_0 rfl (lv_at hl 0 rfl) ?_
  refine gf_X0_3 (v := .int tc) hx hb ht hown hK hP 0 rfl (ht _ wm_37) rfl dX0_addTouch_1 ?_
  refine lv_bipush (v := (6 : Int32)) hx hb dX0_addTouch_4 (by decide) ?_
  refine lv_icmp_ge (tgt := 19) hx hb dX0_addTouch_6 (by decide) (fun c6 => ?_) (fun c6 => ?_)
  · exact hno (by unfold f_X0_addTouch; rw [if_pos c6])
  refine lv_iload_n hx hb dX0_addTouch_9 rfl (lv_at hl 1 rfl) ?_
  refine lv_iconst (v := (5 : Int32)) hx hb dX0_addTouch_10 (by decide) ?_
  refine lv_icmp_gt (tgt := 19) hx hb dX0_addTouch_11 (by decide) (fun c11 => ?_) (fun c11 => ?_)
  · exact hno (by unfold f_X0_addTouch; rw [if_neg c6, if_pos c11])
  refine lv_iload_n hx hb dX0_addTouch_14 rfl (lv_at hl 3 rfl) ?_
  refine lv_iconst (v := (1 : Int32)) hx hb dX0_addTouch_15 (by decide) ?_
  refine lv_icmp_ge (tgt := 21) hx hb dX0_addTouch_16 (by decide) (fun c16 => ?_) (fun c16 => ?_)
  · have hf : f_X0_addTouch tc kv fv hv v1 v2 v3 = (1, tc + 1, upd kv tc.toNatClampNeg v1, upd fv tc.toNatClampNeg v2, upd hv tc.toNatClampNeg v3) := by unfold f_X0_addTouch; rw [if_neg c6, if_neg c11, if_pos c16]
    have hvp : vp_in tc 6 := vp_of (by have q6 := mt Int32.le_iff_toInt_le.mpr c6; have z6 : (6 : Int32).toInt = 6 := rfl; omega)
    refine lv_aload_n hx hb dX0_addTouch_21 rfl (lv_at hl 0 rfl) ?_
    refine gf_X0_10 (v := .ref R) hx hb ht hown hK hP 0 rfl (ht _ wm_45) rfl dX0_addTouch_22 ?_
    refine lv_aload_n hx hb dX0_addTouch_25 rfl (lv_at hl 0 rfl) ?_
    refine gf_X0_3 (v := .int tc) hx hb ht hown hK hP 0 rfl (ht _ wm_37) rfl dX0_addTouch_26 ?_
    refine va_new (ci := 3) (fs := [.int 0, .int 0, .int 0]) (C := RX3) (T := TX3) (N := 3) hx hb ht inlX3 tyX3 tyX3_ok hown (ht _ wm_44) (ht _ wm_46) (ht _ wm_47) hK hP hD hS hA rfl (fun j hj => by rcases (show j = 0 ∨ j = 1 ∨ j = 2 by omega) with rfl | rfl | rfl <;> rfl) (Nat.le_of_ble_eq_true rfl) (Nat.le_of_ble_eq_true rfl) dX0_addTouch_29 (fun q H hP hD hS => ?_)
    have hq := end_fresh hD
    refine lv_dup hx hb dX0_addTouch_32 rfl ?_
    refine lv_iload_n hx hb dX0_addTouch_33 rfl (lv_at hl 1 rfl) ?_
    refine lv_iload_n hx hb dX0_addTouch_34 rfl (lv_at hl 2 rfl) ?_
    refine lv_iload_n hx hb dX0_addTouch_35 rfl (lv_at hl 3 rfl) ?_
    refine kcF_v (rx := fun (_ : Unit) => W_lane cI cT L Y P S T R yd wd pc tc bl tm ya pa sa ta tr ++ va_pl LP (tg tk tf th)) (pl1 := fun _ => [(q, .inr (3, [.int v1, .int v2, .int v3]))]) (va_runIN (As := [.int v1, .int v2, .int v3]) (rest := [.ref q, .int tc, .ref R]) ⟨hx, hb, hml, hown, ht⟩ (c_X3_init l dC dI cI cT (W_lane cI cT L Y P S T R yd wd pc tc bl tm ya pa sa ta tr ++ va_pl LP (tg tk tf th)) q v1 v2 v3 _) ⟨va_cnB 3 ht (gW wm_49) rfl rfl rfl (hNS _ (List.mem_of_getElem? (i := 1) rfl)) (ht _ wm_47) dv_X3_init.2 ⟨Nat.le_of_ble_eq_true rfl, Nat.le_of_ble_eq_true rfl⟩, rfl, ht _ wm_48⟩ (preS hK hNS hP hD) rfl rfl hl.1 rfl (lv_room (Nat.le_of_ble_eq_true rfl)) dX0_addTouch_36 ⟨Nat.le_of_ble_eq_true rfl, Nat.le_of_ble_eq_true rfl⟩) hP hD hS hA (fun _ H locs _ hP hD hS => ?_)
    rw [pool_push hq] at hP hD
    obtain ⟨kx, hk⟩ := va_pl_get (X := W_lane cI cT L Y P S T R yd wd pc tc bl tm ya pa sa ta tr) (f := tg (upd tk q v1) (upd tf q v2) (upd th q v3)) (show q ∈ LP ++ [q] by simp)
    refine va_astq hx hb hK hP hD hS 5 1 kx 3 rfl rfl hk rfl hvp dX0_addTouch_39 (fun H locs hP hD hS => ?_)
    have hP : va_P (dC, dI) vwCl (W_lane cI cT L Y P S T R yd wd pc tc bl tm ya pa sa ta (va_up tr tc.toNatClampNeg (some q)) ++ va_pl (LP ++ [q]) (tg (upd tk q v1) (upd tf q v2) (upd th q v3))) H := hP
    have hD : va_D A (W_lane cI cT L Y P S T R yd wd pc tc bl tm ya pa sa ta (va_up tr tc.toNatClampNeg (some q)) ++ va_pl (LP ++ [q]) (tg (upd tk q v1) (upd tf q v2) (upd th q v3))) := hD
    refine lv_aload_n hx hb dX0_addTouch_40 rfl (lv_at hl 0 rfl) ?_
    refine lv_dup hx hb dX0_addTouch_41 rfl ?_
    refine gf_X0_3 (v := .int tc) hx hb ht hown hK hP 0 rfl (ht _ wm_37) rfl dX0_addTouch_42 ?_
    refine lv_iconst (v := (1 : Int32)) hx hb dX0_addTouch_45 (by decide) ?_
    refine lv_iadd hx hb dX0_addTouch_46 ?_
    refine pf_X0_3 (v := .int (tc + 1)) hx hb ht hown hK hP hD hS 0 rfl (ht _ wm_37) rfl rfl (Nat.le_of_ble_eq_true rfl) dX0_addTouch_47 (fun H locs hP hD hS => ?_)
    refine lv_iconst (v := (1 : Int32)) hx hb dX0_addTouch_50 (by decide) ?_
    refine W.widen (k := 1) (n := 3) (by decide) (by decide) ?_
    exact hret 1 ((tc + 1, upd kv tc.toNatClampNeg v1, upd fv tc.toNatClampNeg v2, upd hv tc.toNatClampNeg v3), va_up tr tc.toNatClampNeg (some q), LP ++ [q], upd tk q v1, upd tf q v2, upd th q v3) _ _ _ _ ⟨hf, Or.inr rfl, hRep.push hq, Grow.push hq⟩ rfl hP hD hS dX0_addTouch_51
  · exact hno (by unfold f_X0_addTouch; rw [if_neg c6, if_neg c11, if_neg c16])

