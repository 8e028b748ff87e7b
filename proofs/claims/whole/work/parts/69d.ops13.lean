section PH2
variable {lz N : Int32} {ls P le la T : Nat → Int32} {nyd nwd npc ntc nbl ntm : Int32} {nya npa nsa nta kv0 fv0 hv0 ki0 fi0 he0 : Nat → Int32}
theorem ph2 (hz : 0 ≤ lz.toInt ∧ lz.toInt ≤ 80) (hN0 : 0 ≤ N.toInt) (hN : 3 * N.toInt ≤ lz.toInt) (hC : CH lz ls P N.toNatClampNeg lz le la T) (hL0 : LV nyd nwd npc ntc nbl nya npa nsa nta ki0 fi0 he0) (hT0 : TK ntc kv0 fv0 hv0 ki0 fi0 he0) (hC0 : CK kv0 fv0 hv0) : ∀ (n m : Nat) (k yd wd pc tc bl tm ik cu tp at_ : Int32) (ya pa sa ta kv fv hv ki fi he st : Nat → Int32), (N.toInt - k.toInt).toNat < n → (N.toInt - k.toInt).toNat < m → 0 ≤ k.toInt → k.toInt ≤ N.toInt → LV yd wd pc tc bl ya pa sa ta ki fi he → TK tc kv fv hv ki fi he → CK kv fv hv →
    ∃ (r y1 y2 y3 y4 y5 y6 : Int32) (y7 y8 y9 y10 : Nat → Int32) (j1 j2 j3 j4 j5 j6 : Int32) (j7 j8 j9 j10 : Nat → Int32) (lq ik' cu' : Int32) (kv' fv' hv' ki' fi' he' : Nat → Int32), f_X4_readLetters_L39 nyd nwd npc ntc nbl ntm nya npa nsa nta lz ls kv0 fv0 hv0 n k yd wd pc tc bl tm ya pa sa ta (P k.toNatClampNeg) kv fv hv = (r, y1, y2, y3, y4, y5, y6, y7, y8, y9, y10, j1, j2, j3, j4, j5, j6, j7, j8, j9, j10, lq, kv', fv', hv') ∧ f_X5_lane_L86 nyd nwd npc ntc nbl ntm nya npa nsa nta ki0 fi0 he0 m k yd wd pc tc bl tm tp at_ N ik cu ya pa sa ta ki fi he le la T st = (r, y1, y2, y3, y4, y5, y6, tp, at_, N, ik', cu', y7, y8, y9, y10, ki', fi', he', le, la, T, st) ∧ LV y1 y2 y3 y4 y5 y7 y8 y9 y10 ki' fi' he' ∧ TK y4 kv' fv' hv' ki' fi' he' ∧ CK kv' fv' hv' := by
  have z80 : (80 : Int32).toInt = 80 := rfl
  have cN := clampT hN0
  intro n
  induction n with
  | zero => intro m k yd wd pc tc bl tm ik cu tp at_ ya pa sa ta kv fv hv ki fi he st h; omega
  | succ n ih =>
    intro m k yd wd pc tc bl tm ik cu tp at_ ya pa sa ta kv fv hv ki fi he st hn hm hk0 hkN hL hT hCk
    obtain ⟨m, rfl⟩ : ∃ z, m = z + 1 := ⟨m - 1, by omega⟩
    rw [f_X4_readLetters_L39, f_X5_lane_L86]
    have ck := clampT hk0
    by_cases c : N ≤ k
    · have q := leT c
      have e : k = N := ofEq (by omega)
      subst e
      rw [hC.2.1, if_pos (ofLe (Int.le_refl _)), if_pos c]
      exact ⟨_, _, _, _, _, _, _, _, _, _, _, _, _, _, _, _, _, _, _, _, _, _, _, _, _, _, _, _, _, _, rfl, rfl, hL, hT, hCk⟩
    · have q := nleT c
      have hi := inc_nle c
      have ck1 := clampT (x := k + 1) (by omega)
      have hI : (k + 1).toNatClampNeg = k.toNatClampNeg + 1 := by omega
      obtain ⟨hla, hs⟩ := hC.2.2 k.toNatClampNeg (by omega)
      obtain ⟨hs1, hs2, qm, hqe, hqm, hs3⟩ := hs
      obtain ⟨p0, p1, p2⟩ := idx3 (i := k) (by omega)
      rw [if_neg (fun cc => by have := leT cc; omega), if_neg (show ¬ (80 : Int32) ≤ k from fun cc => by have := leT cc; omega), if_neg c, hs3]
      obtain ⟨r, y1, y2, y3, y4, y5, y6, y7, y8, y9, y10, y11, y12, y13, z1, z2, z3, z4, z5, z6, z7, z8, z9, z10, z11, z12, z13, g1, g2, g3⟩ := ap_eq (q' := qm) (k := k) (le := le) (T := T) (tm := tm) hL hT hCk rfl (congrArg T p0) (congrArg T p1) (congrArg T p2) hs2
      rw [g1, g2, lt15_def, lt14_def]
      by_cases c0 : r = 0
      · rw [if_pos c0, if_pos c0, hla]
        exact ⟨_, _, _, _, _, _, _, _, _, _, _, _, _, _, _, _, _, _, _, _, _, _, _, _, _, _, _, _, _, _, rfl, rfl, hL0, hT0, hC0⟩
      · obtain ⟨⟨rfl, rfl, rfl, rfl, rfl, rfl, rfl, rfl, rfl, rfl⟩, k1, k2, k3⟩ := g3 c0
        rw [if_neg c0, if_neg c0, takeH hz.2 hqm, lt2_def, ← hqe, ← hI]
        exact ih m (k + 1) _ _ _ _ _ _ ik cu tp at_ _ _ _ _ _ _ _ _ _ _ st (by omega) (by omega) (by omega) (by omega) k1 k2 k3
end PH2
set_option maxRecDepth 100000 in
set_option maxHeartbeats 4000000 in
theorem eq_lane {yd wd pc tc bl tm lz ik cu a1 a2 a3 a4 a5 a6 r y1 y2 y3 y4 y5 y6 j1 j2 j3 j4 j5 j6 lz' lq' : Int32} {ls ya pa sa ta kv fv hv ki fi he b1 b2 b3 b4 y7 y8 y9 y10 j7 j8 j9 j10 kv' fv' hv' le la T st : Nat → Int32} (hL : LV yd wd pc tc bl ya pa sa ta ki fi he) (hT : TK tc kv fv hv ki fi he) (hC : CK kv fv hv) (hz : 0 ≤ lz.toInt ∧ lz.toInt ≤ 80) (e4 : f_X4_lane yd wd pc tc bl tm ya pa sa ta a1 a2 a3 a4 a5 a6 b1 b2 b3 b4 lz ls kv fv hv = (r, y1, y2, y3, y4, y5, y6, y7, y8, y9, y10, j1, j2, j3, j4, j5, j6, j7, j8, j9, j10, lz', lq', kv', fv', hv')) : lz' = 0 ∧ ∃ (a s ik' cu' : Int32) (ki' fi' he' le' la' T' st' : Nat → Int32), f_X5_lane yd wd pc tc bl tm lz ik cu ya pa sa ta ki fi he ls le la T st = (r, y1, y2, y3, y4, y5, y6, 0, a, s, ik', cu', y7, y8, y9, y10, ki', fi', he', le', la', T', st') ∧ LV y1 y2 y3 y4 y5 y7 y8 y9 y10 ki' fi' he' ∧ TK y4 kv' fv' hv' ki' fi' he' ∧ CK kv' fv' hv' ∧ ∀ j : Nat, j < 45 → st' j = st j := by
  have z0 : (0 : Int32).toInt = 0 := rfl
  have hCH : CH lz ls (fun _ => 0) (0 : Int32).toNatClampNeg 0 le la T := ⟨rfl, rfl, fun k hk => absurd hk (Nat.not_lt_zero _)⟩
  obtain ⟨rm, lq, h1, h2⟩ := ph1 (ik := ik) (cu := cu) (yd := yd) (wd := wd) (pc := pc) (tc := tc) (bl := bl) (tm := tm) (ya := ya) (pa := pa) (sa := sa) (ta := ta) (ki := ki) (fi := fi) (he := he) (st := st) hz 81 83 0 0 le la T (fun _ => 0) (by omega) (by omega) (by omega) (by omega) (by omega) (Or.inr z0) hCH
  unfold f_X4_lane f_X4_readLetters f_X1_misfit at e4
  rw [h1, lt2_def] at e4
  unfold f_X5_lane
  rcases h2 with ⟨hr, a, s, le', la', T', h3⟩ | ⟨hr, N, le', la', T', P', hN1, hN3, hCH', h3⟩
  · rw [if_neg (show ¬ rm < (0 : Int32) from fun c => by have := ltT c; omega), lt25_def] at e4
    simp only [Prod.mk.injEq] at e4
    obtain ⟨rfl, rfl, rfl, rfl, rfl, rfl, rfl, rfl, rfl, rfl, rfl, rfl, rfl, rfl, rfl, rfl, rfl, rfl, rfl, rfl, rfl, rfl, rfl, rfl, rfl, rfl⟩ := e4
    exact ⟨rfl, a, s, _, _, _, _, _, _, _, _, _, h3, hL, hT, hC, fun _ _ => rfl⟩
  · rw [hr, if_pos (show (-1 : Int32) < (0 : Int32) by decide)] at e4
    obtain ⟨r', x1, x2, x3, x4, x5, x6, x7, x8, x9, x10, w1, w2, w3, w4, w5, w6, w7, w8, w9, w10, lq2, ik', cu', kv2, fv2, hv2, ki', fi', he', g1, g2, g3, g4, g5⟩ := ph2 (ntm := tm) hz (by omega) hN3 hCH' hL hT hC 81 41 0 yd wd pc tc bl tm 1 ((45 : Int32) * (1 : Int32) + (44 : Int32)) 0 lz ya pa sa ta kv fv hv ki fi he (stK yd wd pc tc bl tm ya pa sa ta ki fi he st (1 : Int32)) (by omega) (by omega) (by omega) (by omega) hL hT hC
    have hP0 : P' (0 : Int32).toNatClampNeg = 0 := hCH'.1
    rw [hP0] at g1
    rw [g1, lt25_def] at e4
    rw [g2] at h3
    simp only [Prod.mk.injEq] at e4
    obtain ⟨rfl, rfl, rfl, rfl, rfl, rfl, rfl, rfl, rfl, rfl, rfl, rfl, rfl, rfl, rfl, rfl, rfl, rfl, rfl, rfl, rfl, rfl, rfl, rfl, rfl, rfl⟩ := e4
    exact ⟨rfl, _, _, _, _, _, _, _, _, _, _, _, h3, g3, g4, g5, stK_low _ _ _ _ _ _ _ _ _ _ _ _ _ _⟩
theorem TRel_of {LP : List Nat} {tk tf th kv fv hv ki fi he : Nat → Int32} {tr : Nat → Option Nat} {tc : Int32} (hR : Rep LP tk tf th tr kv fv hv) (hT : TK tc kv fv hv ki fi he) (h6 : tc.toInt ≤ 6) : TRel tr tk tf th ki fi he tc := fun i hi => by
  obtain ⟨-, g1, g2, g3⟩ := hR i (by omega)
  obtain ⟨k1, k2, k3⟩ := hT i hi
  exact ⟨g1.trans k1, g2.trans k2, g3.trans k3⟩
theorem CV_of {LP : List Nat} {tk tf th kv fv hv ki fi he sa ta : Nat → Int32} {tr : Nat → Option Nat} (hR : Rep LP tk tf th tr kv fv hv) (hC : CK kv fv hv) (hM : MV ki fi he sa ta) : CV tk tf th tr sa ta := by
  refine ⟨fun i hi => ?_, hM.2⟩
  obtain ⟨-, g1, g2, g3⟩ := hR i hi
  rw [g1, g2, g3]
  exact hC i hi
theorem LI_grow {yd wd pc tc bl : Int32} {ya pa sa ta ki fi he tk tf th tk' tf' th' : Nat → Int32} {tr : Nat → Option Nat} {LP LP' : List Nat} (h : LI yd wd pc tc bl ya pa sa ta tr ki fi he LP tk tf th) (hG : Grow LP tk tf th LP' tk' tf' th') : LI yd wd pc tc bl ya pa sa ta tr ki fi he LP' tk' tf' th' := by
  obtain ⟨hL, hR, hC, hT⟩ := h
  refine ⟨hL, fun i hi => ?_, ⟨fun i hi => ?_, hC.2⟩, fun i hi => ⟨(hT i hi).1, (hG _ (hT i hi).2).1⟩⟩
  · obtain ⟨-, g1, g2, g3⟩ := hG _ (hT i (by have := hL.2.2.2.1; omega)).2
    obtain ⟨k1, k2, k3⟩ := hR i hi
    exact ⟨g1.trans k1, g2.trans k2, g3.trans k3⟩
  · obtain ⟨-, g1, g2, g3⟩ := hG _ (hT i hi).2
    rw [g1, g2, g3]
    exact hC.1 i hi
theorem KI_grow {ik kyd kwd kpc ktc kbl ktm : Int32} {kya kpa ksa kta st st' tk tf th tk' tf' th' : Nat → Int32} {ktr : Nat → Option Nat} {LP LP' : List Nat} (h : KI ik kyd kwd kpc ktc kbl ktm kya kpa ksa kta ktr st LP tk tf th) (hG : Grow LP tk tf th LP' tk' tf' th') (hs : ∀ n : Nat, n < 45 → st' n = st n) : KI ik kyd kwd kpc ktc kbl ktm kya kpa ksa kta ktr st' LP' tk' tf' th' := by
  have h := KI_st h hs
  obtain ⟨h1, h2⟩ := h
  refine ⟨fun i hi => ⟨(h1 i hi).1, (hG _ (h1 i hi).2).1⟩, ?_⟩
  rcases h2 with h2 | ⟨a, ki, fi, he, p, q⟩
  · exact Or.inl h2
  · exact Or.inr ⟨a, ki, fi, he, p, LI_grow q hG⟩

