abbrev DG (lz : Int32) (ls : Nat → Int32) (q : Int32) : Int32 := f_X5_isIn (f_X5_next lz q ls) (48 : Int32) (57 : Int32)
/-- a statement, taken for what it says -/
def apC (q' b a0 a1 a2 : Int32) (yd wd pc tc bl tm : Int32) (ya pa sa ta kv fv hv : Nat → Int32) : Int32 × Int32 × Int32 × Int32 × Int32 × Int32 × Int32 × Int32 × (Nat → Int32) × (Nat → Int32) × (Nat → Int32) × (Nat → Int32) × (Nat → Int32) × (Nat → Int32) × (Nat → Int32) := if b = (112 : Int32) then lt6 (f_X0_addPlayer yd pc ya pa sa ta a0 a1 a2) (fun r p1 p2 p3 p4 p5 => (r, q', yd, wd, p1, tc, bl, tm, p2, p3, p4, p5, kv, fv, hv)) else if b = (116 : Int32) then lt5 (f_X0_addTouch tc kv fv hv a0 a1 a2) (fun r p1 p2 p3 p4 => (r, q', yd, wd, pc, p1, bl, tm, ya, pa, sa, ta, p2, p3, p4)) else if b = (119 : Int32) then lt2 (f_X0_becomeWindy wd a0) (fun r p1 => (r, q', yd, p1, pc, tc, bl, tm, ya, pa, sa, ta, kv, fv, hv)) else if b = (121 : Int32) then lt3 (f_X0_becomeLong yd pc ya a0) (fun r p1 p2 => (r, q', p1, wd, pc, tc, bl, tm, p2, pa, sa, ta, kv, fv, hv)) else lt3 (f_X0_startWith pc bl tm a0) (fun r p1 p2 => (r, q', yd, wd, pc, tc, p1, p2, ya, pa, sa, ta, kv, fv, hv))
/-- from q to q' stands a statement b of the numbers a0 a1 a2 -/
def SR (lz : Int32) (ls : Nat → Int32) (q q' b a0 a1 a2 : Int32) : Prop := (0 ≤ q.toInt ∧ q.toInt + 3 ≤ q'.toInt ∧ q'.toInt ≤ lz.toInt) ∧ ((b = 112 ∨ b = 116) → (0 ≤ a0.toInt ∧ a0.toInt ≤ 99) ∧ (0 ≤ a1.toInt ∧ a1.toInt ≤ 9) ∧ 0 ≤ a2.toInt ∧ a2.toInt ≤ 9) ∧ ∃ qm : Int32, q' = qm + 1 ∧ 0 ≤ qm.toInt ∧ ∀ (yd wd pc tc bl tm : Int32) (ya pa sa ta kv fv hv : Nat → Int32), f_X1_readInto lz q ls yd wd pc tc bl tm ya pa sa ta kv fv hv = apC qm b a0 a1 a2 yd wd pc tc bl tm ya pa sa ta kv fv hv
section LT
variable {lz q : Int32} {ls : Nat → Int32}
theorem here_eq (hz : lz.toInt ≤ 80) (hq : 0 ≤ q.toInt) : f_X1_here lz q ls = f_X5_next lz q ls := by
  have z0 : (0 : Int32).toInt = 0 := rfl
  have z80 : (80 : Int32).toInt = 80 := rfl
  unfold f_X1_here f_X5_next
  rw [if_neg (fun c => by have := ltT c; omega)]
  by_cases c : lz ≤ q
  · rw [if_pos c, if_pos c]
  · have := nleT c
    rw [if_neg c, if_neg c, if_neg (fun c => by have := leT c; omega)]
theorem digH (hz : lz.toInt ≤ 80) (hq : 0 ≤ q.toInt) : f_X1_isDigitHere lz q ls = DG lz ls q := by
  unfold f_X1_isDigitHere DG f_X5_isIn
  simp only [lt1]
  rw [here_eq hz hq]
theorem takeH (hz : lz.toInt ≤ 80) (hq : 0 ≤ q.toInt) : f_X1_take lz q ls = (f_X5_next lz q ls, q + 1) := by
  unfold f_X1_take
  rw [lt1_def, here_eq hz hq]
theorem takeDH (hz : lz.toInt ≤ 80) (hq : 0 ≤ q.toInt) : f_X1_takeDigit lz q ls = (f_X5_next lz q ls - 48, q + 1) := by
  unfold f_X1_takeDigit
  rw [takeH hz hq, lt2_def]
theorem takeNH (hz : lz.toInt ≤ 80) (hq : 0 ≤ q.toInt) (hq1 : 0 ≤ (q + 1).toInt) : f_X1_takeNumber lz q ls = if DG lz ls (q + 1) = 0 then (f_X5_next lz q ls - 48, q + 1) else (10 * (f_X5_next lz q ls - 48) + (f_X5_next lz (q + 1) ls - 48), q + 1 + 1) := by
  unfold f_X1_takeNumber
  rw [takeDH hz hq, lt2_def, lt1_def, digH hz hq1, takeDH hz hq1, lt2_def]
theorem takeSH (hz : lz.toInt ≤ 80) (hq : 0 ≤ q.toInt) (hq1 : 0 ≤ (q + 1).toInt) : f_X1_takeSigned lz q ls = if f_X5_next lz q ls = 45 then (-1 * (f_X5_next lz (q + 1) ls - 48), q + 1 + 1) else (1 * (f_X5_next lz (q + 1) ls - 48), q + 1 + 1) := by
  unfold f_X1_takeSigned
  rw [takeH hz hq, lt2_def, takeDH hz hq1, lt2_def, lt2_def]
theorem adv_c {c : Int32} (h : f_X5_next lz q ls = c) (hc : ¬ c = -1) : q.toInt < lz.toInt := by
  unfold f_X5_next at h
  by_cases e : lz ≤ q
  · rw [if_pos e] at h
    exact absurd h.symm hc
  · exact nleT e
theorem adv (h : ¬ DG lz ls q = 0) : q.toInt < lz.toInt ∧ 0 ≤ (f_X5_next lz q ls - 48).toInt ∧ (f_X5_next lz q ls - 48).toInt ≤ 9 := by
  have z48 : (48 : Int32).toInt = 48 := rfl
  have z57 : (57 : Int32).toInt = 57 := rfl
  unfold DG f_X5_isIn at h
  by_cases c1 : f_X5_next lz q ls < (48 : Int32)
  · rw [if_pos c1] at h; exact absurd rfl h
  · rw [if_neg c1] at h
    by_cases c2 : (57 : Int32) < f_X5_next lz q ls
    · rw [if_pos c2] at h; exact absurd rfl h
    · have q1 := nltT c1
      have q2 := nltT c2
      have hs := ts32 (x := f_X5_next lz q ls) (y := (48 : Int32)) (by omega) (by omega)
      refine ⟨adv_c (ls := ls) (c := f_X5_next lz q ls) rfl (fun e => ?_), by omega, by omega⟩
      rw [e] at q1
      exact absurd q1 (by decide)
theorem num2 {x y : Int32} (hx : 0 ≤ x.toInt ∧ x.toInt ≤ 9) (hy : 0 ≤ y.toInt ∧ y.toInt ≤ 9) : 0 ≤ ((10 : Int32) * x + y).toInt ∧ ((10 : Int32) * x + y).toInt ≤ 99 := by
  have h := mul10 (x := x) (by omega)
  have h2 := ta32 (x := (10 : Int32) * x) (y := y) (by omega) (by omega)
  omega
theorem f_step {k n : Nat} {v : Int32} (hv : ¬ sL k ≤ v) : f_X1_isOfForm_L2 lz ls k (n + 1) v q = if f_X1_fits lz q ls (sB k v.toNatClampNeg) = 0 then (if sB k v.toNatClampNeg = (63 : Int32) then f_X1_isOfForm_L2 lz ls k n (v + 1) q else (0, q)) else f_X1_isOfForm_L2 lz ls k n (v + 1) (q + 1) := by
  rw [f_X1_isOfForm_L2, if_neg hv, lt1_def]
theorem stE {k n : Nat} {v : Int32} (hv : sL k ≤ v) : f_X1_isOfForm_L2 lz ls k (n + 1) v q = (1, q) := by
  rw [f_X1_isOfForm_L2, if_pos hv]
theorem stD {k n : Nat} {v : Int32} (hv : ¬ sL k ≤ v) (hc : sB k v.toNatClampNeg = 57) (hz : lz.toInt ≤ 80) (hq : 0 ≤ q.toInt) : f_X1_isOfForm_L2 lz ls k (n + 1) v q = if DG lz ls q = 0 then (0, q) else f_X1_isOfForm_L2 lz ls k n (v + 1) (q + 1) := by
  have hf : f_X1_fits lz q ls 57 = DG lz ls q := by
    unfold f_X1_fits
    rw [if_neg (by decide), if_pos rfl, lt1_def, digH hz hq]
  rw [f_step hv, hc, hf, if_neg (show ¬ (57 : Int32) = 63 by decide)]
theorem stQ {k n : Nat} {v : Int32} (hv : ¬ sL k ≤ v) (hc : sB k v.toNatClampNeg = 63) (hz : lz.toInt ≤ 80) (hq : 0 ≤ q.toInt) : f_X1_isOfForm_L2 lz ls k (n + 1) v q = if DG lz ls q = 0 then f_X1_isOfForm_L2 lz ls k n (v + 1) q else f_X1_isOfForm_L2 lz ls k n (v + 1) (q + 1) := by
  have hf : f_X1_fits lz q ls 63 = DG lz ls q := by
    unfold f_X1_fits
    rw [if_neg (by decide), if_neg (by decide), if_pos rfl, lt1_def, digH hz hq]
  rw [f_step hv, hc, hf, if_pos (show (63 : Int32) = 63 from rfl)]
theorem stP {k n : Nat} {v : Int32} (hv : ¬ sL k ≤ v) (hc : sB k v.toNatClampNeg = 43) (hz : lz.toInt ≤ 80) (hq : 0 ≤ q.toInt) : f_X1_isOfForm_L2 lz ls k (n + 1) v q = if f_X5_next lz q ls = 43 then f_X1_isOfForm_L2 lz ls k n (v + 1) (q + 1) else if f_X5_next lz q ls = 45 then f_X1_isOfForm_L2 lz ls k n (v + 1) (q + 1) else (0, q) := by
  have hf : f_X1_fits lz q ls 43 = if f_X5_next lz q ls = 43 then 1 else if f_X5_next lz q ls = 45 then 1 else 0 := by
    unfold f_X1_fits
    rw [if_pos rfl, lt1_def, here_eq hz hq, lt1_def]
  rw [f_step hv, hc, hf, if_neg (show ¬ (43 : Int32) = 63 by decide)]
  by_cases c1 : f_X5_next lz q ls = 43
  · rw [if_pos c1, if_pos c1, if_neg ne10]
  · rw [if_neg c1, if_neg c1]
    by_cases c2 : f_X5_next lz q ls = 45
    · rw [if_pos c2, if_pos c2, if_neg ne10]
    · rw [if_neg c2, if_neg c2, if_pos rfl]
theorem stC {k n : Nat} {v c : Int32} (hv : ¬ sL k ≤ v) (hc : sB k v.toNatClampNeg = c) (h1 : ¬ c = 43) (h2 : ¬ c = 57) (h3 : ¬ c = 63) (hz : lz.toInt ≤ 80) (hq : 0 ≤ q.toInt) : f_X1_isOfForm_L2 lz ls k (n + 1) v q = if f_X5_next lz q ls = c then f_X1_isOfForm_L2 lz ls k n (v + 1) (q + 1) else (0, q) := by
  have hf : f_X1_fits lz q ls c = if f_X5_next lz q ls = c then 1 else 0 := by
    unfold f_X1_fits
    rw [if_neg h1, if_neg h2, if_neg h3, lt1_def, here_eq hz hq]
  rw [f_step hv, hc, hf, if_neg h3]
  by_cases c1 : f_X5_next lz q ls = c
  · rw [if_pos c1, if_pos c1, if_neg ne10]
  · rw [if_neg c1, if_neg c1, if_pos rfl]
theorem add_sub_a (a b c : Int32) : a + b - c = a + (b - c) := by rw [Int32.sub_eq_add_neg, Int32.sub_eq_add_neg, Int32.add_assoc]
theorem ten0 (x : Int32) : (10 : Int32) * 0 + x = x := by rw [show (10 : Int32) * 0 = 0 by decide, Int32.zero_add]
theorem rn_1 {T : Nat → Int32} {p : Int32} : f_X5_readsNumber lz q ls T p 1 = if DG lz ls q = 0 then (0, q, T) else (1, q + 1, upd T p.toNatClampNeg (f_X5_next lz q ls - 48)) := by
  unfold f_X5_readsNumber
  rw [lt1_def, lt1_def]
  by_cases c : DG lz ls q = 0
  · rw [if_pos c, if_pos c]
  · rw [if_neg c, if_neg c, f_X5_readsNumber_L21, if_neg (show ¬ (1 : Int32) ≤ 0 by decide), lt1_def, lt1_def, if_neg c, lt1_def, f_X5_readsNumber_L21, if_pos (show (1 : Int32) ≤ 0 + 1 by decide), ten0]
theorem rn_2 {T : Nat → Int32} {p : Int32} : f_X5_readsNumber lz q ls T p 2 = if DG lz ls q = 0 then (0, q, T) else if DG lz ls (q + 1) = 0 then (1, q + 1, upd T p.toNatClampNeg (f_X5_next lz q ls - 48)) else (1, q + 1 + 1, upd T p.toNatClampNeg (10 * (f_X5_next lz q ls - 48) + (f_X5_next lz (q + 1) ls - 48))) := by
  unfold f_X5_readsNumber
  rw [lt1_def, lt1_def]
  by_cases c : DG lz ls q = 0
  · rw [if_pos c, if_pos c]
  · rw [if_neg c, if_neg c, f_X5_readsNumber_L21, if_neg (show ¬ (2 : Int32) ≤ 0 by decide), lt1_def, lt1_def, if_neg c, lt1_def, f_X5_readsNumber_L21, if_neg (show ¬ (2 : Int32) ≤ 0 + 1 by decide), lt1_def, lt1_def, ten0]
    by_cases c2 : DG lz ls (q + 1) = 0
    · rw [if_pos c2, if_pos c2]
    · rw [if_neg c2, if_neg c2, lt1_def, f_X5_readsNumber_L21, if_pos (show (2 : Int32) ≤ 0 + 1 + 1 by decide), add_sub_a]
theorem ra_112 {T : Nat → Int32} {p : Int32} : f_X5_readsAll lz q ls T 112 p = f_X5_readsPlayer lz q ls T p := by
  unfold f_X5_readsAll
  rw [if_pos (show (112 : Int32) = 112 from rfl)]
  rfl
theorem ra_119 {T : Nat → Int32} {p : Int32} : f_X5_readsAll lz q ls T 119 p = f_X5_readsWind lz q ls T p := by
  unfold f_X5_readsAll
  rw [if_neg (show ¬ (119 : Int32) = 112 by decide), if_neg (show ¬ (119 : Int32) = 113 by decide), if_neg (show ¬ (119 : Int32) = 114 by decide), if_neg (show ¬ (119 : Int32) = 115 by decide), if_neg (show ¬ (119 : Int32) = 116 by decide), if_neg (show ¬ (119 : Int32) = 117 by decide), if_neg (show ¬ (119 : Int32) = 118 by decide), if_pos (show (119 : Int32) = 119 from rfl)]
  rfl
theorem ra_121 {T : Nat → Int32} {p : Int32} : f_X5_readsAll lz q ls T 121 p = f_X5_readsNumber lz q ls T p 2 := by
  unfold f_X5_readsAll
  rw [if_neg (show ¬ (121 : Int32) = 112 by decide), if_neg (show ¬ (121 : Int32) = 113 by decide), if_neg (show ¬ (121 : Int32) = 114 by decide), if_neg (show ¬ (121 : Int32) = 115 by decide), if_neg (show ¬ (121 : Int32) = 116 by decide), if_neg (show ¬ (121 : Int32) = 117 by decide), if_neg (show ¬ (121 : Int32) = 118 by decide), if_neg (show ¬ (121 : Int32) = 119 by decide), if_neg (show ¬ (121 : Int32) = 120 by decide), if_pos (show (121 : Int32) = 121 from rfl)]
  rfl
theorem ra_98 {T : Nat → Int32} {p : Int32} : f_X5_readsAll lz q ls T 98 p = f_X5_readsNumber lz q ls T p 1 := by
  unfold f_X5_readsAll
  rw [if_neg (show ¬ (98 : Int32) = 112 by decide), if_neg (show ¬ (98 : Int32) = 113 by decide), if_neg (show ¬ (98 : Int32) = 114 by decide), if_neg (show ¬ (98 : Int32) = 115 by decide), if_neg (show ¬ (98 : Int32) = 116 by decide), if_neg (show ¬ (98 : Int32) = 117 by decide), if_neg (show ¬ (98 : Int32) = 118 by decide), if_neg (show ¬ (98 : Int32) = 119 by decide), if_neg (show ¬ (98 : Int32) = 120 by decide), if_neg (show ¬ (98 : Int32) = 121 by decide)]
  rfl
theorem ra_116 {T : Nat → Int32} {p : Int32} : f_X5_readsAll lz q ls T 116 p = lt3 (f_X5_readsNumber lz q ls T p 1) (fun r7 u7_1 u7_2 => (if r7 = (0 : Int32) then ((0 : Int32), u7_1, u7_2) else (lt3 (f_X5_readsNumber lz u7_1 ls u7_2 (p + (1 : Int32)) (1 : Int32)) (fun r8 u8_1 u8_2 => (if r8 = (0 : Int32) then ((0 : Int32), u8_1, u8_2) else (lt3 (f_X5_readsNumber lz u8_1 ls u8_2 (p + (2 : Int32)) (1 : Int32)) (fun r9 u9_1 u9_2 => (if r9 = (0 : Int32) then ((0 : Int32), u9_1, u9_2) else ((1 : Int32), u9_1, u9_2))))))))) := by
  unfold f_X5_readsAll
  rw [if_neg (show ¬ (116 : Int32) = 112 by decide), if_neg (show ¬ (116 : Int32) = 113 by decide), if_neg (show ¬ (116 : Int32) = 114 by decide), if_neg (show ¬ (116 : Int32) = 115 by decide), if_pos (show (116 : Int32) = 116 from rfl)]
theorem rb_112 (yd wd pc tc bl tm : Int32) (ya pa sa ta kv fv hv : Nat → Int32) : g_readBehind lz q ls yd wd pc tc bl tm ya pa sa ta kv fv hv 112 = lt7 (f_X1_readPlayer lz q ls yd pc ya pa sa ta) (fun r2 u2_1 u2_2 u2_3 u2_4 u2_5 u2_6 => (r2, u2_1, yd, wd, u2_2, tc, bl, tm, u2_3, u2_4, u2_5, u2_6, kv, fv, hv)) := by
  unfold g_readBehind
  rw [if_pos (show (112 : Int32) = 112 from rfl)]
theorem rb_116 (yd wd pc tc bl tm : Int32) (ya pa sa ta kv fv hv : Nat → Int32) : g_readBehind lz q ls yd wd pc tc bl tm ya pa sa ta kv fv hv 116 = lt6 (f_X1_readTouch lz q ls tc kv fv hv) (fun r13 u13_1 u13_2 u13_3 u13_4 u13_5 => (r13, u13_1, yd, wd, pc, u13_2, bl, tm, ya, pa, sa, ta, u13_3, u13_4, u13_5)) := by
  unfold g_readBehind
  rw [if_neg (show ¬ (116 : Int32) = 112 by decide), if_neg (show ¬ (116 : Int32) = 113 by decide), if_neg (show ¬ (116 : Int32) = 114 by decide), if_neg (show ¬ (116 : Int32) = 115 by decide), if_pos (show (116 : Int32) = 116 from rfl)]
theorem rb_119 (yd wd pc tc bl tm : Int32) (ya pa sa ta kv fv hv : Nat → Int32) : g_readBehind lz q ls yd wd pc tc bl tm ya pa sa ta kv fv hv 119 = lt2 (f_X1_takeSigned lz q ls) (fun r21 u21 => (lt2 (f_X0_becomeWindy wd r21) (fun r22 u22 => (r22, u21, yd, u22, pc, tc, bl, tm, ya, pa, sa, ta, kv, fv, hv)))) := by
  unfold g_readBehind
  rw [if_neg (show ¬ (119 : Int32) = 112 by decide), if_neg (show ¬ (119 : Int32) = 113 by decide), if_neg (show ¬ (119 : Int32) = 114 by decide), if_neg (show ¬ (119 : Int32) = 115 by decide), if_neg (show ¬ (119 : Int32) = 116 by decide), if_neg (show ¬ (119 : Int32) = 117 by decide), if_neg (show ¬ (119 : Int32) = 118 by decide), if_pos (show (119 : Int32) = 119 from rfl)]
theorem rb_121 (yd wd pc tc bl tm : Int32) (ya pa sa ta kv fv hv : Nat → Int32) : g_readBehind lz q ls yd wd pc tc bl tm ya pa sa ta kv fv hv 121 = lt2 (f_X1_takeNumber lz q ls) (fun r27 u27 => (lt3 (f_X0_becomeLong yd pc ya r27) (fun r28 u28_1 u28_2 => (r28, u27, u28_1, wd, pc, tc, bl, tm, u28_2, pa, sa, ta, kv, fv, hv)))) := by
  unfold g_readBehind
  rw [if_neg (show ¬ (121 : Int32) = 112 by decide), if_neg (show ¬ (121 : Int32) = 113 by decide), if_neg (show ¬ (121 : Int32) = 114 by decide), if_neg (show ¬ (121 : Int32) = 115 by decide), if_neg (show ¬ (121 : Int32) = 116 by decide), if_neg (show ¬ (121 : Int32) = 117 by decide), if_neg (show ¬ (121 : Int32) = 118 by decide), if_neg (show ¬ (121 : Int32) = 119 by decide), if_neg (show ¬ (121 : Int32) = 120 by decide), if_pos (show (121 : Int32) = 121 from rfl)]
theorem rb_98 (yd wd pc tc bl tm : Int32) (ya pa sa ta kv fv hv : Nat → Int32) : g_readBehind lz q ls yd wd pc tc bl tm ya pa sa ta kv fv hv 98 = lt2 (f_X1_takeDigit lz q ls) (fun r29 u29 => (lt3 (f_X0_startWith pc bl tm r29) (fun r30 u30_1 u30_2 => (r30, u29, yd, wd, pc, tc, u30_1, u30_2, ya, pa, sa, ta, kv, fv, hv)))) := by
  unfold g_readBehind
  rw [if_neg (show ¬ (98 : Int32) = 112 by decide), if_neg (show ¬ (98 : Int32) = 113 by decide), if_neg (show ¬ (98 : Int32) = 114 by decide), if_neg (show ¬ (98 : Int32) = 115 by decide), if_neg (show ¬ (98 : Int32) = 116 by decide), if_neg (show ¬ (98 : Int32) = 117 by decide), if_neg (show ¬ (98 : Int32) = 118 by decide), if_neg (show ¬ (98 : Int32) = 119 by decide), if_neg (show ¬ (98 : Int32) = 120 by decide), if_neg (show ¬ (98 : Int32) = 121 by decide)]
theorem SR_y1 (hz : lz.toInt ≤ 80) (hq : 0 ≤ q.toInt) (hb : f_X5_next lz q ls = 121) (c : DG lz ls (q + 1 + 1) = 0) (a1 a2 : Int32) (i1 : (q + 1).toInt = q.toInt + 1) (i2 : (q + 1 + 1).toInt = q.toInt + 2) (i3 : (q + 1 + 1 + 1).toInt = q.toInt + 3) (hl : (q + 1 + 1 + 1).toInt ≤ lz.toInt) : SR lz ls q (q + 1 + 1 + 1) 121 (f_X5_next lz (q + 1) ls - 48) a1 a2 := by
  refine ⟨by omega, ?_, q + 1 + 1, rfl, by omega, fun yd wd pc tc bl tm ya pa sa ta kv fv hv => ?_⟩
  · intro h; rcases h with h | h <;> exact absurd h (by decide)
  · rw [readInto_g, takeH hz hq, lt2_def, hb, rb_121, takeNH hz (by omega) (by omega), if_pos c, lt2_def]
    unfold apC; rw [if_neg (show ¬ (121 : Int32) = 112 by decide), if_neg (show ¬ (121 : Int32) = 116 by decide), if_neg (show ¬ (121 : Int32) = 119 by decide), if_pos (show (121 : Int32) = 121 from rfl)]
theorem SR_y2 (hz : lz.toInt ≤ 80) (hq : 0 ≤ q.toInt) (hb : f_X5_next lz q ls = 121) (c : ¬ DG lz ls (q + 1 + 1) = 0) (a1 a2 : Int32) (i1 : (q + 1).toInt = q.toInt + 1) (i2 : (q + 1 + 1).toInt = q.toInt + 2) (i3 : (q + 1 + 1 + 1).toInt = q.toInt + 3) (i4 : (q + 1 + 1 + 1 + 1).toInt = q.toInt + 4) (hl : (q + 1 + 1 + 1 + 1).toInt ≤ lz.toInt) : SR lz ls q (q + 1 + 1 + 1 + 1) 121 (10 * (f_X5_next lz (q + 1) ls - 48) + (f_X5_next lz (q + 1 + 1) ls - 48)) a1 a2 := by
  refine ⟨by omega, ?_, q + 1 + 1 + 1, rfl, by omega, fun yd wd pc tc bl tm ya pa sa ta kv fv hv => ?_⟩
  · intro h; rcases h with h | h <;> exact absurd h (by decide)
  · rw [readInto_g, takeH hz hq, lt2_def, hb, rb_121, takeNH hz (by omega) (by omega), if_neg c, lt2_def]
    unfold apC; rw [if_neg (show ¬ (121 : Int32) = 112 by decide), if_neg (show ¬ (121 : Int32) = 116 by decide), if_neg (show ¬ (121 : Int32) = 119 by decide), if_pos (show (121 : Int32) = 121 from rfl)]
theorem SR_w1 (hz : lz.toInt ≤ 80) (hq : 0 ≤ q.toInt) (hb : f_X5_next lz q ls = 119) (c : f_X5_next lz (q + 1) ls = 45) (a1 a2 : Int32) (i1 : (q + 1).toInt = q.toInt + 1) (i2 : (q + 1 + 1).toInt = q.toInt + 2) (i3 : (q + 1 + 1 + 1).toInt = q.toInt + 3) (i4 : (q + 1 + 1 + 1 + 1).toInt = q.toInt + 4) (hl : (q + 1 + 1 + 1 + 1).toInt ≤ lz.toInt) : SR lz ls q (q + 1 + 1 + 1 + 1) 119 ((f_X5_next lz (q + 1 + 1) ls - 48) * -1) a1 a2 := by
  refine ⟨by omega, ?_, q + 1 + 1 + 1, rfl, by omega, fun yd wd pc tc bl tm ya pa sa ta kv fv hv => ?_⟩
  · intro h; rcases h with h | h <;> exact absurd h (by decide)
  · rw [readInto_g, takeH hz hq, lt2_def, hb, rb_119, takeSH hz (by omega) (by omega), if_pos c, lt2_def, Int32.mul_comm]
    unfold apC; rw [if_neg (show ¬ (119 : Int32) = 112 by decide), if_neg (show ¬ (119 : Int32) = 116 by decide), if_pos (show (119 : Int32) = 119 from rfl)]
theorem SR_w2 (hz : lz.toInt ≤ 80) (hq : 0 ≤ q.toInt) (hb : f_X5_next lz q ls = 119) (c : ¬ f_X5_next lz (q + 1) ls = 45) (a1 a2 : Int32) (i1 : (q + 1).toInt = q.toInt + 1) (i2 : (q + 1 + 1).toInt = q.toInt + 2) (i3 : (q + 1 + 1 + 1).toInt = q.toInt + 3) (i4 : (q + 1 + 1 + 1 + 1).toInt = q.toInt + 4) (hl : (q + 1 + 1 + 1 + 1).toInt ≤ lz.toInt) : SR lz ls q (q + 1 + 1 + 1 + 1) 119 ((f_X5_next lz (q + 1 + 1) ls - 48) * 1) a1 a2 := by
  refine ⟨by omega, ?_, q + 1 + 1 + 1, rfl, by omega, fun yd wd pc tc bl tm ya pa sa ta kv fv hv => ?_⟩
  · intro h; rcases h with h | h <;> exact absurd h (by decide)
  · rw [readInto_g, takeH hz hq, lt2_def, hb, rb_119, takeSH hz (by omega) (by omega), if_neg c, lt2_def, Int32.mul_comm]
    unfold apC; rw [if_neg (show ¬ (119 : Int32) = 112 by decide), if_neg (show ¬ (119 : Int32) = 116 by decide), if_pos (show (119 : Int32) = 119 from rfl)]
theorem SR_b (hz : lz.toInt ≤ 80) (hq : 0 ≤ q.toInt) (hb : f_X5_next lz q ls = 98) (a1 a2 : Int32) (i1 : (q + 1).toInt = q.toInt + 1) (i2 : (q + 1 + 1).toInt = q.toInt + 2) (i3 : (q + 1 + 1 + 1).toInt = q.toInt + 3) (hl : (q + 1 + 1 + 1).toInt ≤ lz.toInt) : SR lz ls q (q + 1 + 1 + 1) 98 (f_X5_next lz (q + 1) ls - 48) a1 a2 := by
  refine ⟨by omega, ?_, q + 1 + 1, rfl, by omega, fun yd wd pc tc bl tm ya pa sa ta kv fv hv => ?_⟩
  · intro h; rcases h with h | h <;> exact absurd h (by decide)
  · rw [readInto_g, takeH hz hq, lt2_def, hb, rb_98, takeDH hz (by omega), lt2_def]
    unfold apC; rw [if_neg (show ¬ (98 : Int32) = 112 by decide), if_neg (show ¬ (98 : Int32) = 116 by decide), if_neg (show ¬ (98 : Int32) = 119 by decide), if_neg (show ¬ (98 : Int32) = 121 by decide)]
theorem SR_t (hz : lz.toInt ≤ 80) (hq : 0 ≤ q.toInt) (hb : f_X5_next lz q ls = 116) (i1 : (q + 1).toInt = q.toInt + 1) (i2 : (q + 1 + 1).toInt = q.toInt + 2) (i3 : (q + 1 + 1 + 1).toInt = q.toInt + 3) (i4 : (q + 1 + 1 + 1 + 1).toInt = q.toInt + 4) (i5 : (q + 1 + 1 + 1 + 1 + 1).toInt = q.toInt + 5) (hl : (q + 1 + 1 + 1 + 1 + 1).toInt ≤ lz.toInt) (r0 : 0 ≤ (f_X5_next lz (q + 1) ls - 48).toInt ∧ (f_X5_next lz (q + 1) ls - 48).toInt ≤ 9) (r1 : 0 ≤ (f_X5_next lz (q + 1 + 1) ls - 48).toInt ∧ (f_X5_next lz (q + 1 + 1) ls - 48).toInt ≤ 9) (r2 : 0 ≤ (f_X5_next lz (q + 1 + 1 + 1) ls - 48).toInt ∧ (f_X5_next lz (q + 1 + 1 + 1) ls - 48).toInt ≤ 9) : SR lz ls q (q + 1 + 1 + 1 + 1 + 1) 116 (f_X5_next lz (q + 1) ls - 48) (f_X5_next lz (q + 1 + 1) ls - 48) (f_X5_next lz (q + 1 + 1 + 1) ls - 48) := by
  refine ⟨by omega, ?_, q + 1 + 1 + 1 + 1, rfl, by omega, fun yd wd pc tc bl tm ya pa sa ta kv fv hv => ?_⟩
  · intro _; exact ⟨by omega, r1, r2⟩
  · rw [readInto_g, takeH hz hq, lt2_def, hb, rb_116]
    unfold f_X1_readTouch
    rw [takeDH hz (by omega), lt2_def, takeDH hz (by omega), lt2_def, takeDH hz (by omega), lt2_def]
    unfold apC; rw [if_neg (show ¬ (116 : Int32) = 112 by decide), if_pos (show (116 : Int32) = 116 from rfl)]
    rcases f_X0_addTouch tc kv fv hv (f_X5_next lz (q + 1) ls - 48) (f_X5_next lz (q + 1 + 1) ls - 48) (f_X5_next lz (q + 1 + 1 + 1) ls - 48) with ⟨x1, x2, x3, x4, x5⟩
    rw [lt5_def, lt6_def, lt5_def]
theorem SR_p1 (hz : lz.toInt ≤ 80) (hq : 0 ≤ q.toInt) (hb : f_X5_next lz q ls = 112) (c : DG lz ls (q + 1 + 1) = 0) (i1 : (q + 1).toInt = q.toInt + 1) (i2 : (q + 1 + 1).toInt = q.toInt + 2) (i3 : (q + 1 + 1 + 1).toInt = q.toInt + 3) (i4 : (q + 1 + 1 + 1 + 1).toInt = q.toInt + 4) (i5 : (q + 1 + 1 + 1 + 1 + 1).toInt = q.toInt + 5) (i6 : (q + 1 + 1 + 1 + 1 + 1 + 1).toInt = q.toInt + 6) (hl : (q + 1 + 1 + 1 + 1 + 1 + 1).toInt ≤ lz.toInt) (r0 : 0 ≤ ((f_X5_next lz (q + 1) ls - 48)).toInt ∧ ((f_X5_next lz (q + 1) ls - 48)).toInt ≤ 99) (r1 : 0 ≤ (f_X5_next lz (q + 1 + 1 + 1) ls - 48).toInt ∧ (f_X5_next lz (q + 1 + 1 + 1) ls - 48).toInt ≤ 9) (r2 : 0 ≤ (f_X5_next lz (q + 1 + 1 + 1 + 1) ls - 48).toInt ∧ (f_X5_next lz (q + 1 + 1 + 1 + 1) ls - 48).toInt ≤ 9) : SR lz ls q (q + 1 + 1 + 1 + 1 + 1 + 1) 112 (f_X5_next lz (q + 1) ls - 48) (f_X5_next lz (q + 1 + 1 + 1) ls - 48) (f_X5_next lz (q + 1 + 1 + 1 + 1) ls - 48) := by
  refine ⟨by omega, ?_, q + 1 + 1 + 1 + 1 + 1, rfl, by omega, fun yd wd pc tc bl tm ya pa sa ta kv fv hv => ?_⟩
  · intro _; exact ⟨r0, r1, r2⟩
  · rw [readInto_g, takeH hz hq, lt2_def, hb, rb_112]
    unfold f_X1_readPlayer
    rw [takeNH hz (by omega) (by omega), if_pos c, lt2_def, takeH hz (by omega), lt2_def, takeDH hz (by omega), lt2_def, takeDH hz (by omega), lt2_def]
    unfold apC; rw [if_pos (show (112 : Int32) = 112 from rfl)]
    rcases f_X0_addPlayer yd pc ya pa sa ta (f_X5_next lz (q + 1) ls - 48) (f_X5_next lz (q + 1 + 1 + 1) ls - 48) (f_X5_next lz (q + 1 + 1 + 1 + 1) ls - 48) with ⟨x1, x2, x3, x4, x5, x6⟩
    rw [lt6_def, lt7_def, lt6_def]
theorem SR_p2 (hz : lz.toInt ≤ 80) (hq : 0 ≤ q.toInt) (hb : f_X5_next lz q ls = 112) (c : ¬ DG lz ls (q + 1 + 1) = 0) (i1 : (q + 1).toInt = q.toInt + 1) (i2 : (q + 1 + 1).toInt = q.toInt + 2) (i3 : (q + 1 + 1 + 1).toInt = q.toInt + 3) (i4 : (q + 1 + 1 + 1 + 1).toInt = q.toInt + 4) (i5 : (q + 1 + 1 + 1 + 1 + 1).toInt = q.toInt + 5) (i6 : (q + 1 + 1 + 1 + 1 + 1 + 1).toInt = q.toInt + 6) (i7 : (q + 1 + 1 + 1 + 1 + 1 + 1 + 1).toInt = q.toInt + 7) (hl : (q + 1 + 1 + 1 + 1 + 1 + 1 + 1).toInt ≤ lz.toInt) (r0 : 0 ≤ ((10 * (f_X5_next lz (q + 1) ls - 48) + (f_X5_next lz (q + 1 + 1) ls - 48))).toInt ∧ ((10 * (f_X5_next lz (q + 1) ls - 48) + (f_X5_next lz (q + 1 + 1) ls - 48))).toInt ≤ 99) (r1 : 0 ≤ (f_X5_next lz (q + 1 + 1 + 1 + 1) ls - 48).toInt ∧ (f_X5_next lz (q + 1 + 1 + 1 + 1) ls - 48).toInt ≤ 9) (r2 : 0 ≤ (f_X5_next lz (q + 1 + 1 + 1 + 1 + 1) ls - 48).toInt ∧ (f_X5_next lz (q + 1 + 1 + 1 + 1 + 1) ls - 48).toInt ≤ 9) : SR lz ls q (q + 1 + 1 + 1 + 1 + 1 + 1 + 1) 112 (10 * (f_X5_next lz (q + 1) ls - 48) + (f_X5_next lz (q + 1 + 1) ls - 48)) (f_X5_next lz (q + 1 + 1 + 1 + 1) ls - 48) (f_X5_next lz (q + 1 + 1 + 1 + 1 + 1) ls - 48) := by
  refine ⟨by omega, ?_, q + 1 + 1 + 1 + 1 + 1 + 1, rfl, by omega, fun yd wd pc tc bl tm ya pa sa ta kv fv hv => ?_⟩
  · intro _; exact ⟨r0, r1, r2⟩
  · rw [readInto_g, takeH hz hq, lt2_def, hb, rb_112]
    unfold f_X1_readPlayer
    rw [takeNH hz (by omega) (by omega), if_neg c, lt2_def, takeH hz (by omega), lt2_def, takeDH hz (by omega), lt2_def, takeDH hz (by omega), lt2_def]
    unfold apC; rw [if_pos (show (112 : Int32) = 112 from rfl)]
    rcases f_X0_addPlayer yd pc ya pa sa ta (10 * (f_X5_next lz (q + 1) ls - 48) + (f_X5_next lz (q + 1 + 1) ls - 48)) (f_X5_next lz (q + 1 + 1 + 1 + 1) ls - 48) (f_X5_next lz (q + 1 + 1 + 1 + 1 + 1) ls - 48) with ⟨x1, x2, x3, x4, x5, x6⟩
    rw [lt6_def, lt7_def, lt6_def]
end LT

