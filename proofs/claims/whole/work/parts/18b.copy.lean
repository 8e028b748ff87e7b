theorem cf_tr {otr : Nat → Option Nat} {a b c d e f : Int32} {p q r t : Nat → Int32} (hT : ∀ i, i < 6 → otr i = some (tA otr i)) : ∀ (n : Nat) (v : Int32) (tr : Nat → Option Nat), ((6 : Int) - v.toInt).toNat < n → 0 ≤ v.toInt → v.toInt ≤ 6 → (∀ j : Nat, (j : Int) < v.toInt → tr j = otr j) → ∃ tr', f_X0_copyFrom_L111 otr n v a b c d e f p q r t tr = (a, b, c, d, e, f, p, q, r, t, tr') ∧ ∀ j : Nat, j < 6 → tr' j = otr j := by
  intro n
  induction n with
  | zero => intro v tr h; omega
  | succ n ih =>
    intro v tr hm hv h6 ht
    have z6 : (6 : Int32).toInt = 6 := rfl
    rw [f_X0_copyFrom_L111]
    by_cases hle : (6 : Int32) ≤ v
    · rw [if_pos hle]
      have q := Int32.le_iff_toInt_le.mp hle
      exact ⟨tr, rfl, fun j hj => ht j (by omega)⟩
    · rw [if_neg hle]
      have q := mt Int32.le_iff_toInt_le.mpr hle
      have hi := inc_nle hle
      have kv := clampT hv
      refine ih (v + 1) _ (by omega) (by omega) (by omega) (fun j hj => ?_)
      by_cases e : j = v.toNatClampNeg
      · subst e
        rw [hT _ (by omega)]
        simp [va_up]
      · rw [show va_up tr v.toNatClampNeg (some (tA otr v.toNatClampNeg)) j = tr j by simp [va_up, e]]
        exact ht j (by omega)
theorem cf_ar {otr tr : Nat → Option Nat} {a b c d e f : Int32} {op oq or_ ot : Nat → Int32} (hT : ∀ i, i < 6 → otr i = some (tA otr i)) : ∀ (n : Nat) (v : Int32) (p q r t : Nat → Int32), ((5 : Int) - v.toInt).toNat < n → 0 ≤ v.toInt → v.toInt ≤ 5 → (∀ j : Nat, (j : Int) < v.toInt → p j = op j ∧ q j = oq j ∧ r j = or_ j ∧ t j = ot j) → ∃ p' q' r' t' tr', f_X0_copyFrom_L50 tr op oq or_ ot otr n v a b c d e f p q r t = (a, b, c, d, e, f, p', q', r', t', tr') ∧ (∀ j : Nat, j < 5 → p' j = op j) ∧ (∀ j : Nat, j < 5 → q' j = oq j) ∧ (∀ j : Nat, j < 5 → r' j = or_ j) ∧ (∀ j : Nat, j < 5 → t' j = ot j) ∧ ∀ j : Nat, j < 6 → tr' j = otr j := by
  intro n
  induction n with
  | zero => intro v p q r t h; omega
  | succ n ih =>
    intro v p q r t hm hv h5 hh
    have z5 : (5 : Int32).toInt = 5 := rfl
    have z0 : (0 : Int32).toInt = 0 := rfl
    rw [f_X0_copyFrom_L50]
    by_cases hle : (5 : Int32) ≤ v
    · rw [if_pos hle]
      have qq := Int32.le_iff_toInt_le.mp hle
      obtain ⟨tr', e1, h1⟩ := cf_tr (a := a) (b := b) (c := c) (d := d) (e := e) (f := f) (p := p) (q := q) (r := r) (t := t) hT 7 0 tr (by omega) (by omega) (by omega) (fun j hj => by omega)
      exact ⟨p, q, r, t, tr', e1, fun j hj => (hh j (by omega)).1, fun j hj => (hh j (by omega)).2.1, fun j hj => (hh j (by omega)).2.2.1, fun j hj => (hh j (by omega)).2.2.2, h1⟩
    · rw [if_neg hle]
      have qq := mt Int32.le_iff_toInt_le.mpr hle
      have hi := inc_nle hle
      have kv := clampT hv
      refine ih (v + 1) _ _ _ _ (by omega) (by omega) (by omega) (fun j hj => ?_)
      by_cases e : j = v.toNatClampNeg
      · subst e
        rw [pk_us, pk_us, pk_us, pk_us]
        exact ⟨rfl, rfl, rfl, rfl⟩
      · rw [pk_un e, pk_un e, pk_un e, pk_un e]
        exact hh j (by omega)
def f_X0_copyFrom_c (oyd owd opc otc obl otm : Int32) (oya opa osa ota : Nat → Int32) (otr : Nat → Option Nat) : (Int32) × (Int32) × (Int32) × (Int32) × (Int32) × (Int32) × (Nat → Int32) × (Nat → Int32) × (Nat → Int32) × (Nat → Int32) × (Nat → Option Nat) := (oyd, owd, opc, otc, obl, otm, oya, opa, osa, ota, otr)
set_option maxHeartbeats 4000000 in
theorem c_X0_copyFrom_c (l : Launch) (dC : Nat → ClassId) (dI : Nat → Nat → Nat) (cI cT : ClassId) (L : Nat) (Y : Nat) (P : Nat) (S : Nat) (T : Nat) (R : Nat) (oL : Nat) (oY : Nat) (oP : Nat) (oS : Nat) (oT : Nat) (oR : Nat) (yd : Int32) (wd : Int32) (pc : Int32) (tc : Int32) (bl : Int32) (tm : Int32) (ya : Nat → Int32) (pa : Nat → Int32) (sa : Nat → Int32) (ta : Nat → Int32) (tr : Nat → Option Nat) (oyd : Int32) (owd : Int32) (opc : Int32) (otc : Int32) (obl : Int32) (otm : Int32) (oya : Nat → Int32) (opa : Nat → Int32) (osa : Nat → Int32) (ota : Nat → Int32) (otr : Nat → Option Nat) (LP : List Nat) (tk tf th : Nat → Int32) (hT_o : ∀ i, i < 6 → otr i = some (tA otr i) ∧ tA otr i ∈ LP) : CtV l (dC, dI) cI cT yX0_copyFrom wd_X0_copyFrom rm_X0_copyFrom [.ref L, .ref oL] (W_lane2 cI cT L Y P S T R oL oY oP oS oT oR yd wd pc tc bl tm ya pa sa ta tr oyd owd opc otc obl otm oya opa osa ota otr ++ va_pl LP (tg tk tf th)) (fun (u : (Int32) × (Int32) × (Int32) × (Int32) × (Int32) × (Int32) × (Nat → Int32) × (Nat → Int32) × (Nat → Int32) × (Nat → Int32) × (Nat → Option Nat)) => f_X0_copyFrom_c oyd owd opc otc obl otm oya opa osa ota otr = u) (fun u => W_lane2 cI cT L Y P S T R oL oY oP oS oT oR u.1 u.2.1 u.2.2.1 u.2.2.2.1 u.2.2.2.2.1 u.2.2.2.2.2.1 u.2.2.2.2.2.2.1 u.2.2.2.2.2.2.2.1 u.2.2.2.2.2.2.2.2.1 u.2.2.2.2.2.2.2.2.2.1 u.2.2.2.2.2.2.2.2.2.2 oyd owd opc otc obl otm oya opa osa ota otr ++ va_pl LP (tg tk tf th)) 0 0 := by
  refine (c_X0_copyFrom l dC dI cI cT L Y P S T R oL oY oP oS oT oR yd wd pc tc bl tm ya pa sa ta tr oyd owd opc otc obl otm oya opa osa ota otr LP tk tf th hT_o).mono (fun u hu => ?_)
  obtain ⟨p', q', r', t', tr', e, h1, h2, h3, h4, h5⟩ := cf_ar (tr := tr) (otr := otr) (a := oyd) (b := owd) (c := opc) (d := otc) (e := obl) (f := otm) (op := oya) (oq := opa) (or_ := osa) (ot := ota) (fun i hi => (hT_o i hi).1) 6 0 ya pa sa ta (by decide) (by decide) (by decide) (fun j hj => absurd hj (by have z0 : (0 : Int32).toInt = 0 := rfl; omega))
  refine ⟨f_X0_copyFrom_c oyd owd opc otc obl otm oya opa osa ota otr, rfl, ?_⟩
  unfold f_X0_copyFrom at hu
  rw [e] at hu
  subst hu
  refine ⟨fun _ h => va_P.cellq (va_P.cell (va_P.cell (va_P.cell (va_P.cell h 1 rfl h1) 2 rfl h2) 3 rfl h3) 4 rfl h4) 5 rfl h5, fun _ h => ?_⟩
  exact va_D.set (p := 5) (va_D.set (p := 4) (va_D.set (p := 3) (va_D.set (p := 2) (va_D.set (p := 1) h rfl) rfl) rfl) rfl) rfl

