theorem z64 : (0 : Int64).toInt = 0 := by decide
abbrev JT : Type := Int32 × Int32 × Int32 × Int32 × Int32 × Int32 × (Nat → Int32) × (Nat → Int32) × (Nat → Int32) × (Nat → Int32) × (Nat → Option Nat)
section ON
variable {rf ya pa sa ta ki fi he tk tf th : Nat → Int32} {tr : Nat → Option Nat} {yd wd pc tc bl tm : Int32}
theorem two_L (hL : LV yd wd pc tc bl ya pa sa ta ki fi he) (hR : TRel tr tk tf th ki fi he tc) {t to E : Int32} {up dn each : Int64} (ht : 0 ≤ t.toInt ∧ t.toInt < tc.toInt) (hto : 0 ≤ to.toInt ∧ to.toInt < pc.toInt) (hE : 0 ≤ E.toInt ∧ E.toInt ≤ 13) : ∀ (n : Nat) (S : Int64) (e a1 a2 a3 a4 a5 a6 ik cu : Int32) (b1 b2 b3 b4 st : Nat → Int32) (mtr : Nat → Option Nat), (E.toInt + 1 - e.toInt).toNat < n → -13 ≤ e.toInt → e.toInt ≤ E.toInt + 1 → 0 ≤ S.toInt → S.toInt ≤ 140548508100 * (e.toInt + 13) → ∃ (S' : Int64) (J : JT) (ik' cu' : Int32) (st' : Nat → Int32), f_X4_sumOfOddsBehind_L24 yd wd pc tc bl tm ya pa sa ta tr tk tf th t to n E S e a1 a2 a3 a4 a5 a6 b1 b2 b3 b4 mtr = (S', J) ∧ (0 ≤ S'.toInt ∧ S'.toInt ≤ 140548508100 * 27) ∧ (∀ j : Nat, j < 45 → st' j = st j) ∧ f_X5_triesTwo_L31 yd wd pc tc bl tm up dn ya pa sa ta ki fi he t to n E each S e ik cu st = (if (0 : Int32) < lg_cmp (S' * dn) (up * each) then (ik', cu', S', each, st') else (ik', cu', up, dn, st')) := by
  have hL0 := hL
  obtain ⟨hy, hw, hp, htc, hb, hq, hM⟩ := hL0
  have vt : vp_in t 6 := vp_of (by omega)
  have hb9 := (hM.1 t.toNatClampNeg (vp_lt vt)).2.2
  intro n
  induction n with
  | zero => intro S e a1 a2 a3 a4 a5 a6 ik cu b1 b2 b3 b4 st mtr hm; omega
  | succ n ih =>
    intro S e a1 a2 a3 a4 a5 a6 ik cu b1 b2 b3 b4 st mtr hm he1 he2 hS0 hS1
    rw [f_X4_sumOfOddsBehind_L24, f_X5_triesTwo_L31]
    by_cases c : E < e
    · have q := ltT c
      rw [if_pos c, if_pos c]
      exact ⟨_, _, _, _, _, rfl, ⟨hS0, by omega⟩, fun _ _ => rfl, rfl⟩
    · have q := nltT c
      have hi : (e + 1).toInt = e.toInt + 1 := by
        have z1 : (1 : Int32).toInt = 1 := rfl
        have h := ta32 (x := e) (y := (1 : Int32)) (by omega) (by omega)
        omega
      rw [if_neg c, if_neg c, lt1_def, eq_had hR ht hb9, eq_play hR ht htc.2 hp hM]
      have hx := LV_keeps (tm := tm) (e := e) hL ht hto
      have hfst : (f_X5_keeps yd wd pc bl tm ya pa ta ki fi he t to e).1 = f_X5_isHad yd wd ya pa ki fi he t to e := by rw [keeps_eq vt hp hM]
      rcases ex : f_X5_keeps yd wd pc bl tm ya pa ta ki fi he t to e with ⟨x1, x2, x3, x4, x5⟩
      rw [ex] at hx hfst
      dsimp only at hfst
      rw [← hfst]
      have hk := keeps_bl vt hp hM ex
      have hlow := stK_low yd wd pc tc bl tm ya pa sa ta ki fi he st
      rw [lt5_def, lt5_def]
      by_cases c2 : x1 = 0
      · rw [if_pos c2, if_pos c2]
        obtain ⟨S', J, i', c', s', k1, k2, k3, k4⟩ := ih S (e + 1) a1 a2 a3 a4 a5 a6 0 ((45 : Int32) * (1 : Int32) + (44 : Int32)) b1 b2 b3 b4 (stK yd wd pc tc bl tm ya pa sa ta ki fi he st (1 : Int32)) mtr (by omega) (by omega) (by omega) hS0 (by omega)
        exact ⟨S', J, i', c', s', k1, k2, fun j hj => (k3 j hj).trans (hlow j hj), k4⟩
      · rw [if_neg c2, if_neg c2, lt1_def, lt1_def]
        have e2 := hk.2 c2
        have hA := bestOf_A hx hR (by rw [show (x1, x2, x3, x4, x5).2.1 = x2 from rfl, e2]; exact hto.1) (by omega)
        dsimp only at hA
        rw [hA.1]
        generalize f_X5_bestParts yd wd pc tc x2 x4 pa sa x5 ki fi he = P at hA ⊢
        have hs := ta64 (x := S) (y := P) (by omega) (by omega)
        obtain ⟨S', J, i', c', s', k1, k2, k3, k4⟩ := ih (S + P) (e + 1) yd wd pc tc x2 x3 0 ((45 : Int32) * (1 : Int32) + (44 : Int32)) x4 pa sa x5 (stK yd wd pc tc bl tm ya pa sa ta ki fi he st (1 : Int32)) tr (by omega) (by omega) (by omega) (by omega) (by omega)
        exact ⟨S', J, i', c', s', k1, k2, fun j hj => (k3 j hj).trans (hlow j hj), k4⟩
/-- class and model at the end: the same part; the image stands -/
def RS (part : Int32) (rf st0 : Nat → Int32) (c : Int32 × Int32 × Int32 × Int32 × Int32 × Int32 × (Nat → Int32) × (Nat → Int32) × (Nat → Int32) × (Nat → Int32) × (Nat → Option Nat) × Int64 × Int64) (m : Int64 × Int32 × Int32 × Int64 × Int64 × (Nat → Int32) × (Nat → Int32)) : Prop := m.1 = f_X2_part c.2.2.2.2.2.2.2.2.2.2.2.1 c.2.2.2.2.2.2.2.2.2.2.2.2 part ∧ m.2.2.2.2.2.1 = rf ∧ ∀ j : Nat, j < 45 → m.2.2.2.2.2.2 j = st0 j
theorem on_in (hL : LV yd wd pc tc bl ya pa sa ta ki fi he) (hR : TRel tr tk tf th ki fi he tc) (hbl : 0 ≤ bl.toInt) {part t : Int32} {st0 : Nat → Int32} (ht : 0 ≤ t.toInt ∧ t.toInt < tc.toInt)
    {K : Int64 → Int64 → Int32 → Int32 → Int32 → Int32 → Int32 → Int32 → Int32 → (Nat → Int32) → (Nat → Int32) → (Nat → Int32) → (Nat → Int32) → (Nat → Option Nat) → Int32 × Int32 × Int32 × Int32 × Int32 × Int32 × (Nat → Int32) × (Nat → Int32) × (Nat → Int32) × (Nat → Int32) × (Nat → Option Nat) × Int64 × Int64}
    {M : Int32 → Int32 → Int32 → Int64 → Int64 → (Nat → Int32) → Int64 × Int32 × Int32 × Int64 × Int64 × (Nat → Int32) × (Nat → Int32)}
    (hK : ∀ (up dn : Int64) (a1 a2 a3 a4 a5 a6 ik cu : Int32) (b1 b2 b3 b4 st : Nat → Int32) (mtr : Nat → Option Nat), (0 ≤ up.toInt ∧ up.toInt ≤ 140548508100 * 27) → (1 ≤ dn.toInt ∧ dn.toInt ≤ 27) → (∀ j : Nat, j < 45 → st j = st0 j) → RS part rf st0 (K up dn (t + 1) a1 a2 a3 a4 a5 a6 b1 b2 b3 b4 mtr) (M (t + 1) ik cu up dn st)) :
    ∀ (n : Nat) (up dn : Int64) (v a1 a2 a3 a4 a5 a6 ik cu : Int32) (b1 b2 b3 b4 st : Nat → Int32) (mtr : Nat → Option Nat), (pc.toInt - v.toInt).toNat < n → 0 ≤ v.toInt → (0 ≤ up.toInt ∧ up.toInt ≤ 140548508100 * 27) → (1 ≤ dn.toInt ∧ dn.toInt ≤ 27) → (∀ j : Nat, j < 45 → st j = st0 j) → RS part rf st0 (f_X4_findOddsOfTwo_L22 yd wd pc tc bl tm ya pa sa ta tr tk tf th K n up dn t v a1 a2 a3 a4 a5 a6 b1 b2 b3 b4 mtr) (f_X5_on_L92 yd wd pc tc bl tm rf ya pa sa ta ki fi he part M n t v ik cu up dn st) := by
  have hL0 := hL
  obtain ⟨hy, hw, hp, htc, hb, hq, hM⟩ := hL0
  have vt : vp_in t 6 := vp_of (by omega)
  have vb : vp_in bl 5 := vp_of (by omega)
  intro n
  induction n with
  | zero => intro up dn v a1 a2 a3 a4 a5 a6 ik cu b1 b2 b3 b4 st mtr hm; omega
  | succ n ih =>
    intro up dn v a1 a2 a3 a4 a5 a6 ik cu b1 b2 b3 b4 st mtr hm hv hup hdn hst
    rw [f_X4_findOddsOfTwo_L22, f_X5_on_L92]
    by_cases c : pc ≤ v
    · rw [if_pos c, if_pos c]
      exact hK up dn a1 a2 a3 a4 a5 a6 ik cu b1 b2 b3 b4 st mtr hup hdn hst
    · have q := nleT c
      have hi := inc_nle c
      rw [if_neg c, if_neg c]
      have hE := errB (p := v) hM vt vb
      have hW := each_27 (p := v) hM vt vb
      have hn := tn32 (x := f_X5_errorOf sa ta ki fi he t bl v) (by omega)
      obtain ⟨S', J, i', c', s', k1, k2, k3, k4⟩ := two_L (tm := tm) (up := up) (dn := dn) (each := Int32.toInt64 (f_X5_eachOf sa ta ki fi he t bl v)) hL hR ht (to := v) (by omega) hE 28 0 (-(f_X5_errorOf sa ta ki fi he t bl v)) a1 a2 a3 a4 a5 a6 ik cu b1 b2 b3 b4 st mtr (by omega) (by omega) (by omega) (by decide) (by rw [z64]; omega)
      have hA : f_X4_sumOfOddsBehind yd wd pc tc bl tm ya pa sa ta tr a1 a2 a3 a4 a5 a6 b1 b2 b3 b4 mtr tk tf th t v = (S', J) := by
        unfold f_X4_sumOfOddsBehind
        rw [lt1_def, eq_err hR ht]
        exact k1
      have hB : f_X5_triesTwo yd wd pc tc bl tm ik cu up dn ya pa sa ta ki fi he st t v = (if (0 : Int32) < lg_cmp (S' * dn) (up * Int32.toInt64 (f_X5_eachOf sa ta ki fi he t bl v)) then (i', c', S', Int32.toInt64 (f_X5_eachOf sa ta ki fi he t bl v), s') else (i', c', up, dn, s')) := by
        unfold f_X5_triesTwo
        rw [lt1_def, lt1_def]
        exact k4
      obtain ⟨j1, j2, j3, j4, j5, j6, j7, j8, j9, j10, j11⟩ := J
      rw [hA, hB, lt12_def, lt1_def, eq_ways hR ht]
      have hst' : ∀ j : Nat, j < 45 → s' j = st0 j := fun j hj => (k3 j hj).trans (hst j hj)
      have hW64 : 1 ≤ (Int32.toInt64 (f_X5_eachOf sa ta ki fi he t bl v)).toInt ∧ (Int32.toInt64 (f_X5_eachOf sa ta ki fi he t bl v)).toInt ≤ 27 := by rw [toInt64T]; exact hW
      by_cases c2 : (0 : Int32) < lg_cmp (S' * dn) (up * Int32.toInt64 (f_X5_eachOf sa ta ki fi he t bl v))
      · rw [if_pos c2, if_neg (Int32.not_le.mpr c2), lt5_def]
        exact ih S' _ (v + 1) j1 j2 j3 j4 j5 j6 i' c' j7 j8 j9 j10 s' j11 (by omega) (by omega) k2 hW64 hst'
      · rw [if_neg c2, if_pos (Int32.not_lt.mp c2), lt5_def]
        exact ih up dn (v + 1) j1 j2 j3 j4 j5 j6 i' c' j7 j8 j9 j10 s' j11 (by omega) (by omega) hup hdn hst'
theorem on_out (hL : LV yd wd pc tc bl ya pa sa ta ki fi he) (hR : TRel tr tk tf th ki fi he tc) (hbl : 0 ≤ bl.toInt) {part : Int32} {st0 : Nat → Int32} : ∀ (n : Nat) (up dn : Int64) (t a1 a2 a3 a4 a5 a6 ik cu : Int32) (b1 b2 b3 b4 st : Nat → Int32) (mtr : Nat → Option Nat), (tc.toInt - t.toInt).toNat < n → 0 ≤ t.toInt → (0 ≤ up.toInt ∧ up.toInt ≤ 140548508100 * 27) → (1 ≤ dn.toInt ∧ dn.toInt ≤ 27) → (∀ j : Nat, j < 45 → st j = st0 j) → RS part rf st0 (f_X4_findOddsOfTwo_L7 yd wd pc tc bl tm ya pa sa ta tr tk tf th n up dn t a1 a2 a3 a4 a5 a6 b1 b2 b3 b4 mtr) (f_X5_on_L80 yd wd pc tc bl tm rf ya pa sa ta ki fi he part n t ik cu up dn st) := by
  have hp := hL.2.2.1
  have z0 : (0 : Int32).toInt = 0 := rfl
  intro n
  induction n with
  | zero => intro up dn t a1 a2 a3 a4 a5 a6 ik cu b1 b2 b3 b4 st mtr hm; omega
  | succ n ih =>
    intro up dn t a1 a2 a3 a4 a5 a6 ik cu b1 b2 b3 b4 st mtr hm ht0 hup hdn hst
    rw [f_X4_findOddsOfTwo_L7, f_X5_on_L80]
    by_cases c : tc ≤ t
    · rw [if_pos c, if_pos c, lt1_def]
      have hd : 0 < (dn * 5019589575).toInt := by
        have h := tm64 (x := dn) (y := 5019589575) (by rw [zA]; omega) (by rw [zA]; omega)
        rw [h, zA]; omega
      rw [eq_become hup.1 hd, lt2_def]
      refine ⟨?_, rfl, hst⟩
      dsimp only
      rw [eq_frac, Int64.mul_comm 5019589575 dn]
    · have q := nleT c
      have hi := inc_nle c
      rw [if_neg c, if_neg c]
      refine on_in hL hR hbl ⟨ht0, q⟩ (fun up dn a1 a2 a3 a4 a5 a6 ik cu b1 b2 b3 b4 st mtr hup hdn hst => ?_) 6 up dn 0 a1 a2 a3 a4 a5 a6 ik cu b1 b2 b3 b4 st mtr (by omega) (by omega) hup hdn hst
      exact ih up dn (t + 1) a1 a2 a3 a4 a5 a6 ik cu b1 b2 b3 b4 st mtr (by omega) (by omega) hup hdn hst
end ON
theorem bec01 : f_X2_become 0 1 = (0, 1) := by decide +kernel
theorem eq_on {rf ya pa sa ta ki fi he tk tf th st rf' b1 b2 b3 b4 b1' b2' b3' b4' : Nat → Int32} {tr mtr mtr' : Nat → Option Nat} {yd wd pc tc bl tm ik cu v1 v2 a1 a2 a3 a4 a5 a6 a1' a2' a3' a4' a5' a6' : Int32} {up dn r oa ob oa' ob' : Int64} (hL : LV yd wd pc tc bl ya pa sa ta ki fi he) (hR : TRel tr tk tf th ki fi he tc) (e4 : f_X4_on rf yd wd pc tc bl tm ya pa sa ta tr a1 a2 a3 a4 a5 a6 b1 b2 b3 b4 mtr oa ob tk tf th v1 v2 = (r, rf', a1', a2', a3', a4', a5', a6', b1', b2', b3', b4', mtr', oa', ob')) : ∃ ik' cu' up' dn' st', f_X5_on yd wd pc tc bl tm ik cu up dn rf ya pa sa ta ki fi he st v1 v2 = (r, ik', cu', up', dn', rf', st') ∧ ∀ n : Nat, n < 45 → st' n = st n := by
  have z0 : (0 : Int32).toInt = 0 := rfl
  unfold f_X4_on at e4
  unfold f_X5_on
  rw [lt1_def]
  by_cases c1 : (1 : Int32) ≤ v1
  · rw [if_pos c1] at e4
    by_cases c2 : v1 ≤ (2 : Int32)
    · rw [if_pos c2] at e4
      rw [bnd_ok c1 c2, if_pos rfl, lt1_def]
      unfold f_X5_isIn
      by_cases c3 : v2 < (0 : Int32)
      · rw [if_pos c3, lo2] at e4
        rw [if_pos c3, if_pos rfl]
        simp only [lt2] at e4 ⊢
        cases e4
        exact ⟨_, _, _, _, _, rfl, fun _ _ => rfl⟩
      rw [if_neg c3] at e4
      rw [if_neg c3]
      by_cases c4 : v2 ≤ (1 : Int32)
      · rw [if_pos c4, lt1_def] at e4
        rw [if_neg (Int32.not_lt.mpr c4), if_neg ne10, lt1_def, inplay_eq hL.2.2.2.2.1]
        by_cases c5 : f_X0_isInPlay pc tc bl = 0
        · rw [if_pos c5, bec01, lt2_def, lt1_def] at e4
          rw [if_pos c5]
          unfold f_X2_part at e4
          by_cases c6 : v2 = 0
          · rw [if_pos c6] at e4 ⊢
            cases e4
            exact ⟨_, _, _, _, _, rfl, fun _ _ => rfl⟩
          · rw [if_neg c6] at e4 ⊢
            cases e4
            exact ⟨_, _, _, _, _, rfl, fun _ _ => rfl⟩
        · rw [if_neg c5] at e4
          rw [if_neg c5]
          have hpl := isInPlay_t rfl c5
          by_cases c7 : v1 = 1
          · rw [if_pos c7, lt1_def] at e4
            rw [if_pos c7, lt1_def, lt1_def]
            have hA := bestOf_A hL hR hpl.1.1 (by omega)
            rw [hA.1, eq_become hA.2.1 (by rw [zA]; decide), lt2_def, lt1_def, eq_frac] at e4
            cases e4
            exact ⟨_, _, _, _, _, rfl, fun _ _ => rfl⟩
          · rw [if_neg c7] at e4
            rw [if_neg c7]
            have hO := on_out (rf := rf) (tm := tm) (part := v2) (st0 := st) hL hR hpl.1.1 7 0 1 0 a1 a2 a3 a4 a5 a6 ik cu b1 b2 b3 b4 st mtr (by have := hL.2.2.2.1; omega) (by omega) ⟨by decide, by decide⟩ ⟨by decide, by decide⟩ (fun _ _ => rfl)
            have hF : f_X4_findOddsOfTwo yd wd pc tc bl tm ya pa sa ta tr a1 a2 a3 a4 a5 a6 b1 b2 b3 b4 mtr tk tf th = f_X4_findOddsOfTwo_L7 yd wd pc tc bl tm ya pa sa ta tr tk tf th 7 0 1 0 a1 a2 a3 a4 a5 a6 b1 b2 b3 b4 mtr := by unfold f_X4_findOddsOfTwo; rfl
            rw [hF] at e4
            generalize f_X4_findOddsOfTwo_L7 yd wd pc tc bl tm ya pa sa ta tr tk tf th 7 0 1 0 a1 a2 a3 a4 a5 a6 b1 b2 b3 b4 mtr = C at e4 hO
            generalize f_X5_on_L80 yd wd pc tc bl tm rf ya pa sa ta ki fi he v2 7 0 ik cu 0 1 st = M at hO ⊢
            obtain ⟨j1, j2, j3, j4, j5, j6, j7, j8, j9, j10, j11, j12, j13⟩ := C
            obtain ⟨m1, m2, m3, m4, m5, m6, m7⟩ := M
            obtain ⟨h1, h2, h3⟩ := hO
            dsimp only at h1 h2 h3
            rw [lt13_def, lt1_def, ← h1] at e4
            cases e4
            rw [h2]
            exact ⟨_, _, _, _, _, rfl, h3⟩
      · rw [if_neg c4, lo2] at e4
        rw [if_pos (Int32.not_le.mp c4), if_pos rfl]
        simp only [lt2] at e4 ⊢
        cases e4
        exact ⟨_, _, _, _, _, rfl, fun _ _ => rfl⟩
    · rw [if_neg c2, lo6] at e4
      rw [bnd_hi c1 c2, if_neg ne6]
      simp only [lt2] at e4 ⊢
      cases e4
      exact ⟨_, _, _, _, _, rfl, fun _ _ => rfl⟩
  · rw [if_neg c1, lo4] at e4
    rw [bnd_lo c1, if_neg ne4]
    simp only [lt2] at e4 ⊢
    cases e4
    exact ⟨_, _, _, _, _, rfl, fun _ _ => rfl⟩

