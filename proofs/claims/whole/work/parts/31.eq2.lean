/-- how many of x .. E lie in lo .. hi -/
def cnt (x E lo hi : Int) : Int := if (if lo ≤ x then x else lo) ≤ (if E ≤ hi then E else hi) then (if E ≤ hi then E else hi) - (if lo ≤ x then x else lo) + 1 else 0
theorem cnt_end {x E lo hi : Int} (h : E < x) : cnt x E lo hi = 0 := by
  unfold cnt
  (repeat' split) <;> omega
theorem cnt_in {x E lo hi : Int} (h : x ≤ E) (h1 : lo ≤ x) (h2 : x ≤ hi) : cnt x E lo hi = cnt (x + 1) E lo hi + 1 := by
  unfold cnt
  (repeat' split) <;> omega
theorem cnt_out {x E lo hi : Int} (h : x ≤ E) (h1 : x < lo ∨ hi < x) : cnt x E lo hi = cnt (x + 1) E lo hi := by
  unfold cnt
  (repeat' split) <;> omega
theorem cnt_le {x E lo hi : Int} (h : x ≤ E + 1) : 0 ≤ cnt x E lo hi ∧ cnt x E lo hi ≤ E - x + 1 := by
  unfold cnt
  (repeat' split) <;> omega
theorem tminT {a b : Int32} : (if a < b then a else b).toInt = (if a.toInt < b.toInt then a.toInt else b.toInt) := by
  by_cases h : a < b
  · rw [if_pos h, if_pos (Int32.lt_iff_toInt_lt.mp h)]
  · rw [if_neg h, if_neg (mt Int32.lt_iff_toInt_lt.mpr h)]
theorem tmaxT {a b : Int32} : (if a < b then b else a).toInt = (if a.toInt < b.toInt then b.toInt else a.toInt) := by
  by_cases h : a < b
  · rw [if_pos h, if_pos (Int32.lt_iff_toInt_lt.mp h)]
  · rw [if_neg h, if_neg (mt Int32.lt_iff_toInt_lt.mpr h)]
/-- the bounds of the errors by which it is had: P where he is, R how far he comes, d the drift -/
def loE (P R d : Int) : Int := (if -R ≤ -P then -P else -R) - d
def hiE (y P R d : Int) : Int := (if R ≤ y - 1 - P then R else y - 1 - P) - d
theorem yard_iff {y x : Int32} : f_X5_isYard y x = (if 0 ≤ x.toInt ∧ x.toInt < y.toInt then 1 else 0) := by
  unfold f_X5_isYard
  have z0 : (0 : Int32).toInt = 0 := rfl
  by_cases h : x < (0 : Int32)
  · have q := Int32.lt_iff_toInt_lt.mp h
    rw [if_pos h, if_neg (by omega)]
  · have q := mt Int32.lt_iff_toInt_lt.mpr h
    rw [if_neg h]
    by_cases g : y ≤ x
    · have q2 := Int32.le_iff_toInt_le.mp g
      rw [if_pos g, if_neg (by omega)]
    · have q2 := mt Int32.le_iff_toInt_le.mpr g
      rw [if_neg g, if_pos (by omega)]
section HAD
variable {yd wd t o : Int32} {pl pa ki fi he : Nat → Int32}
theorem had_iff {e : Int32} (hd : -1000 ≤ (f_X5_driftOf wd ki fi he t).toInt ∧ (f_X5_driftOf wd ki fi he t).toInt ≤ 1000) (he1 : -1000 ≤ e.toInt ∧ e.toInt ≤ 1000) (hP : 0 ≤ (pl (Int32.toNatClampNeg o)).toInt ∧ (pl (Int32.toNatClampNeg o)).toInt ≤ 1000) (hR : 0 ≤ (pa (Int32.toNatClampNeg o) * f_X5_airOf ki he t).toInt ∧ (pa (Int32.toNatClampNeg o) * f_X5_airOf ki he t).toInt ≤ 1000) :
    f_X5_isHad yd wd pl pa ki fi he t o e = (if loE (pl (Int32.toNatClampNeg o)).toInt (pa (Int32.toNatClampNeg o) * f_X5_airOf ki he t).toInt (f_X5_driftOf wd ki fi he t).toInt ≤ e.toInt ∧ e.toInt ≤ hiE yd.toInt (pl (Int32.toNatClampNeg o)).toInt (pa (Int32.toNatClampNeg o) * f_X5_airOf ki he t).toInt (f_X5_driftOf wd ki fi he t).toInt then 1 else 0) := by
  unfold f_X5_isHad
  simp only [lt1]
  generalize f_X5_driftOf wd ki fi he t = d at *
  generalize pa (Int32.toNatClampNeg o) * f_X5_airOf ki he t = R at *
  generalize pl (Int32.toNatClampNeg o) = P at *
  have z0 : (0 : Int32).toInt = 0 := rfl
  have a1 := ta32 (x := d) (y := e) (by omega) (by omega)
  have a2 := ta32 (x := P) (y := d + e) (by omega) (by omega)
  have a3 := tn32 (x := d + e) (by omega)
  rw [yard_iff]
  unfold loE hiE
  by_cases hy : 0 ≤ (P + (d + e)).toInt ∧ (P + (d + e)).toInt < yd.toInt
  · rw [if_pos hy, if_neg (show ¬ (1 : Int32) = 0 by decide)]
    by_cases c : (0 : Int32) ≤ d + e
    · have q := Int32.le_iff_toInt_le.mp c
      rw [if_pos c]
      by_cases g : R < d + e
      · have q2 := Int32.lt_iff_toInt_lt.mp g
        rw [if_pos g, if_neg (by (repeat' split) <;> omega)]
      · have q2 := mt Int32.lt_iff_toInt_lt.mpr g
        rw [if_neg g, if_pos (by (repeat' split) <;> omega)]
    · have q := mt Int32.le_iff_toInt_le.mpr c
      rw [if_neg c]
      by_cases g : R < -(d + e)
      · have q2 := Int32.lt_iff_toInt_lt.mp g
        rw [if_pos g, if_neg (by (repeat' split) <;> omega)]
      · have q2 := mt Int32.lt_iff_toInt_lt.mpr g
        rw [if_neg g, if_pos (by (repeat' split) <;> omega)]
  · rw [if_neg hy, if_pos rfl, if_neg (by (repeat' split) <;> omega)]
theorem had_L {sk ti : Nat → Int32} {one : Int32} (hE : 0 ≤ (f_X5_errorOf sk ti ki fi he t one o).toInt ∧ (f_X5_errorOf sk ti ki fi he t one o).toInt ≤ 13) (hd : -1000 ≤ (f_X5_driftOf wd ki fi he t).toInt ∧ (f_X5_driftOf wd ki fi he t).toInt ≤ 1000) (hP : 0 ≤ (pl (Int32.toNatClampNeg o)).toInt ∧ (pl (Int32.toNatClampNeg o)).toInt ≤ 1000) (hR : 0 ≤ (pa (Int32.toNatClampNeg o) * f_X5_airOf ki he t).toInt ∧ (pa (Int32.toNatClampNeg o) * f_X5_airOf ki he t).toInt ≤ 1000) :
    ∀ (n : Nat) (v4 v5 : Int32), ((f_X5_errorOf sk ti ki fi he t one o).toInt + 1 - v5.toInt).toNat < n → 0 ≤ v4.toInt → v4.toInt ≤ v5.toInt + 13 → -13 ≤ v5.toInt → v5.toInt ≤ (f_X5_errorOf sk ti ki fi he t one o).toInt + 1 → (f_X5_hadMany_L13 yd wd pl pa sk ti ki fi he t one o n v4 v5).toInt = v4.toInt + cnt v5.toInt (f_X5_errorOf sk ti ki fi he t one o).toInt (loE (pl (Int32.toNatClampNeg o)).toInt (pa (Int32.toNatClampNeg o) * f_X5_airOf ki he t).toInt (f_X5_driftOf wd ki fi he t).toInt) (hiE yd.toInt (pl (Int32.toNatClampNeg o)).toInt (pa (Int32.toNatClampNeg o) * f_X5_airOf ki he t).toInt (f_X5_driftOf wd ki fi he t).toInt) := by
  intro n
  have z0 : (0 : Int32).toInt = 0 := rfl
  have z1 : (1 : Int32).toInt = 1 := rfl
  induction n with
  | zero => intro v4 v5 h; omega
  | succ n ih =>
    intro v4 v5 hm h4 h4' h5 h5'
    rw [f_X5_hadMany_L13]
    simp only [lt1]
    have hb := cnt_le (x := v5.toInt) (E := (f_X5_errorOf sk ti ki fi he t one o).toInt) (lo := loE (pl (Int32.toNatClampNeg o)).toInt (pa (Int32.toNatClampNeg o) * f_X5_airOf ki he t).toInt (f_X5_driftOf wd ki fi he t).toInt) (hi := hiE yd.toInt (pl (Int32.toNatClampNeg o)).toInt (pa (Int32.toNatClampNeg o) * f_X5_airOf ki he t).toInt (f_X5_driftOf wd ki fi he t).toInt) h5'
    by_cases c : f_X5_errorOf sk ti ki fi he t one o < v5
    · have q := Int32.lt_iff_toInt_lt.mp c
      rw [if_pos c, cnt_end q]
      omega
    · have q := mt Int32.lt_iff_toInt_lt.mpr c
      rw [if_neg c, had_iff hd (by omega) hP hR]
      have a5 := ta32 (x := v5) (y := 1) (by omega) (by omega)
      have b0 := ta32 (x := v4) (y := 0) (by omega) (by omega)
      have b1 := ta32 (x := v4) (y := 1) (by omega) (by omega)
      by_cases g : loE (pl (Int32.toNatClampNeg o)).toInt (pa (Int32.toNatClampNeg o) * f_X5_airOf ki he t).toInt (f_X5_driftOf wd ki fi he t).toInt ≤ v5.toInt ∧ v5.toInt ≤ hiE yd.toInt (pl (Int32.toNatClampNeg o)).toInt (pa (Int32.toNatClampNeg o) * f_X5_airOf ki he t).toInt (f_X5_driftOf wd ki fi he t).toInt
      · rw [if_pos g, if_neg (show ¬ (1 : Int32) = 0 by decide), cnt_in (by omega) g.1 g.2]
        rw [ih _ _ (by omega) (by omega) (by omega) (by omega) (by omega), a5, z1]
        omega
      · rw [if_neg g, if_pos rfl, cnt_out (by omega) (by omega)]
        rw [ih _ _ (by omega) (by omega) (by omega) (by omega) (by omega), a5, z1]
        omega
end HAD
theorem had_cnt {yd wd t one o : Int32} {pl pa ki fi he sk ti : Nat → Int32} (hE : 0 ≤ (f_X5_errorOf sk ti ki fi he t one o).toInt ∧ (f_X5_errorOf sk ti ki fi he t one o).toInt ≤ 13) (hd : -1000 ≤ (f_X5_driftOf wd ki fi he t).toInt ∧ (f_X5_driftOf wd ki fi he t).toInt ≤ 1000) (hP : 0 ≤ (pl (Int32.toNatClampNeg o)).toInt ∧ (pl (Int32.toNatClampNeg o)).toInt ≤ 1000) (hR : 0 ≤ (pa (Int32.toNatClampNeg o) * f_X5_airOf ki he t).toInt ∧ (pa (Int32.toNatClampNeg o) * f_X5_airOf ki he t).toInt ≤ 1000) :
    (f_X5_hadMany yd wd pl pa sk ti ki fi he t one o).toInt = cnt (-(f_X5_errorOf sk ti ki fi he t one o).toInt) (f_X5_errorOf sk ti ki fi he t one o).toInt (loE (pl (Int32.toNatClampNeg o)).toInt (pa (Int32.toNatClampNeg o) * f_X5_airOf ki he t).toInt (f_X5_driftOf wd ki fi he t).toInt) (hiE yd.toInt (pl (Int32.toNatClampNeg o)).toInt (pa (Int32.toNatClampNeg o) * f_X5_airOf ki he t).toInt (f_X5_driftOf wd ki fi he t).toInt) := by
  have z0 : (0 : Int32).toInt = 0 := rfl
  have hn := tn32 (x := f_X5_errorOf sk ti ki fi he t one o) (by omega)
  rw [f_X5_hadMany, lt1_def, had_L hE hd hP hR 28 0 _ (by omega) (by omega) (by omega) (by omega) (by omega), hn, z0, Int.zero_add]
theorem ways_core {E d R P y : Int32} (hE : 0 ≤ E.toInt ∧ E.toInt ≤ 13) (hd : -1000 ≤ d.toInt ∧ d.toInt ≤ 1000) (hR : 0 ≤ R.toInt ∧ R.toInt ≤ 1000) (hP : 0 ≤ P.toInt ∧ P.toInt ≤ 1000) (hy : 0 ≤ y.toInt ∧ y.toInt ≤ 1000) :
    (if (0 : Int32) < (((if (if ((y - (1 : Int32)) - P) < R then ((y - (1 : Int32)) - P) else R) < (d + E) then (if ((y - (1 : Int32)) - P) < R then ((y - (1 : Int32)) - P) else R) else (d + E)) - (if (d - E) < (if (-R) < (-P) then (-P) else (-R)) then (if (-R) < (-P) then (-P) else (-R)) else (d - E))) + (1 : Int32)) then (((if (if ((y - (1 : Int32)) - P) < R then ((y - (1 : Int32)) - P) else R) < (d + E) then (if ((y - (1 : Int32)) - P) < R then ((y - (1 : Int32)) - P) else R) else (d + E)) - (if (d - E) < (if (-R) < (-P) then (-P) else (-R)) then (if (-R) < (-P) then (-P) else (-R)) else (d - E))) + (1 : Int32)) else (0 : Int32)).toInt = cnt (-E.toInt) E.toInt (loE P.toInt R.toInt d.toInt) (hiE y.toInt P.toInt R.toInt d.toInt) := by
  have z0 : (0 : Int32).toInt = 0 := rfl
  have z1 : (1 : Int32).toInt = 1 := rfl
  have t1 := ts32 (x := y) (y := 1) (by omega) (by omega)
  have t2 := ts32 (x := y - 1) (y := P) (by omega) (by omega)
  have t3 := ta32 (x := d) (y := E) (by omega) (by omega)
  have t4 := ts32 (x := d) (y := E) (by omega) (by omega)
  have t5 := tn32 (x := R) (by omega)
  have t6 := tn32 (x := P) (by omega)
  have m1 := tminT (a := (y - 1) - P) (b := R)
  have m2 := tmaxT (a := -R) (b := -P)
  generalize (if ((y - (1 : Int32)) - P) < R then ((y - (1 : Int32)) - P) else R) = A at m1 ⊢
  generalize (if (-R) < (-P) then (-P) else (-R)) = B at m2 ⊢
  have m3 := tminT (a := A) (b := d + E)
  have m4 := tmaxT (a := d - E) (b := B)
  generalize (if A < (d + E) then A else (d + E)) = C at m3 ⊢
  generalize (if (d - E) < B then B else (d - E)) = G at m4 ⊢
  have bA : -2000 ≤ A.toInt ∧ A.toInt ≤ 2000 := by rw [m1]; split <;> omega
  have bB : -2000 ≤ B.toInt ∧ B.toInt ≤ 2000 := by rw [m2]; split <;> omega
  have bC : -3000 ≤ C.toInt ∧ C.toInt ≤ 3000 := by rw [m3]; split <;> omega
  have bG : -3000 ≤ G.toInt ∧ G.toInt ≤ 3000 := by rw [m4]; split <;> omega
  have t7 := ts32 (x := C) (y := G) (by omega) (by omega)
  have t8 := ta32 (x := C - G) (y := 1) (by omega) (by omega)
  have m5 := tmaxT (a := 0) (b := C - G + 1)
  rw [m5, t8, t7, z0, z1, m3, m4, m1, m2, t2, t1, t3, t4, t5, t6, z1]
  unfold cnt loE hiE
  (repeat' split) <;> omega

