/-- the statements read so far: where each stands, and what it says -/
def CH (lz : Int32) (ls P : Nat → Int32) (i : Nat) (q : Int32) (le la T : Nat → Int32) : Prop := P 0 = 0 ∧ P i = q ∧ ∀ k, k < i → la k = P k ∧ SR lz ls (P k) (P (k + 1)) (le k) (T (3 * k)) (T (3 * k + 1)) (T (3 * k + 2))
theorem CH.push {lz q q' b : Int32} {ls P le la T T' : Nat → Int32} {i : Nat} (h : CH lz ls P i q le la T) (hs : SR lz ls q q' b (T' (3 * i)) (T' (3 * i + 1)) (T' (3 * i + 2))) (hT : ∀ j, j < 3 * i → T' j = T j) : CH lz ls (upd P (i + 1) q') (i + 1) q' (upd le i b) (upd la i q) T' := by
  obtain ⟨h0, h1, h2⟩ := h
  refine ⟨by rw [upd_ne _ _ (show 0 ≠ i + 1 by omega)]; exact h0, upd_self _ _ _, fun k hk => ?_⟩
  by_cases e : k = i
  · subst e
    rw [upd_self, upd_self, upd_self, upd_ne _ _ (show k ≠ k + 1 by omega), h1]
    exact ⟨rfl, hs⟩
  · obtain ⟨g1, g2⟩ := h2 k (by omega)
    rw [upd_ne _ _ e, upd_ne _ _ e, upd_ne _ _ (show k ≠ i + 1 by omega), upd_ne _ _ (show k + 1 ≠ i + 1 by omega), hT _ (by omega), hT _ (by omega), hT _ (by omega)]
    exact ⟨g1, g2⟩
theorem fm121 : f_X1_formOf 121 = 0 := by decide
theorem fm119 : f_X1_formOf 119 = 1 := by decide
theorem fm112 : f_X1_formOf 112 = 2 := by decide
theorem fm116 : f_X1_formOf 116 = 3 := by decide
theorem fm98 : f_X1_formOf 98 = 4 := by decide
theorem idx3 {i : Int32} (h : 0 ≤ i.toInt ∧ i.toInt ≤ 100) : ((3 : Int32) * i).toNatClampNeg = 3 * i.toNatClampNeg ∧ ((3 : Int32) * i + 1).toNatClampNeg = 3 * i.toNatClampNeg + 1 ∧ ((3 : Int32) * i + 2).toNatClampNeg = 3 * i.toNatClampNeg + 2 := by
  have z1 : (1 : Int32).toInt = 1 := rfl
  have z2 : (2 : Int32).toInt = 2 := rfl
  have hm := mul3 (x := i) (by omega)
  have h1 := ta32 (x := (3 : Int32) * i) (y := (1 : Int32)) (by omega) (by omega)
  have h2 := ta32 (x := (3 : Int32) * i) (y := (2 : Int32)) (by omega) (by omega)
  have c0 := clampT (x := i) h.1
  have c1 := clampT (x := (3 : Int32) * i) (by omega)
  have c2 := clampT (x := (3 : Int32) * i + 1) (by omega)
  have c3 := clampT (x := (3 : Int32) * i + 2) (by omega)
  omega
theorem ph1 {lz ik cu yd wd pc tc bl tm : Int32} {ls ya pa sa ta ki fi he st : Nat → Int32} (hz : 0 ≤ lz.toInt ∧ lz.toInt ≤ 80) : ∀ (n m : Nat) (i q : Int32) (le la T P : Nat → Int32), ((80 : Int) - i.toInt).toNat < n → (lz.toInt - q.toInt).toNat + 1 < m → 0 ≤ i.toInt → 3 * i.toInt ≤ q.toInt → q.toInt ≤ lz.toInt → (q.toInt < lz.toInt ∨ i.toInt = 0) → CH lz ls P i.toNatClampNeg q le la T →
    ∃ r lq, f_X1_misfit_L7 lz ls n i q = (r, lq) ∧ ((0 ≤ r.toInt ∧ ∃ a s le' la' T', f_X5_lane_L12 yd wd pc tc bl tm lz ik cu ya pa sa ta ki fi he ls st m 1 q i le la T = (-1000 - r, yd, wd, pc, tc, bl, tm, 0, a, s, ik, cu, ya, pa, sa, ta, ki, fi, he, le', la', T', st)) ∨ (r = -1 ∧ ∃ N le' la' T' P', 1 ≤ N.toInt ∧ 3 * N.toInt ≤ lz.toInt ∧ CH lz ls P' N.toNatClampNeg lz le' la' T' ∧ f_X5_lane_L12 yd wd pc tc bl tm lz ik cu ya pa sa ta ki fi he ls st m 1 q i le la T = f_X5_lane_L86 yd wd pc tc bl tm ya pa sa ta ki fi he 41 0 yd wd pc tc bl tm 0 lz N 1 ((45 : Int32) * (1 : Int32) + (44 : Int32)) ya pa sa ta ki fi he le' la' T' (stK yd wd pc tc bl tm ya pa sa ta ki fi he st (1 : Int32)))) := by
  have z0 : (0 : Int32).toInt = 0 := rfl
  have z1 : (1 : Int32).toInt = 1 := rfl
  have z80 : (80 : Int32).toInt = 80 := rfl
  intro n
  induction n with
  | zero => intro m i q le la T P h; omega
  | succ n ih =>
    intro m i q le la T P hn hm hi hiq hql hor hC
    obtain ⟨m, rfl⟩ : ∃ z, m = z + 1 := ⟨m - 1, by omega⟩
    have hq : 0 ≤ q.toInt := by omega
    have c80 : ¬ (80 : Int32) ≤ i := fun c => by have := leT c; omega
    have hii := inc_nle c80
    have hM : f_X5_lane_L12 yd wd pc tc bl tm lz ik cu ya pa sa ta ki fi he ls st (m + 1) 1 q i le la T = lt5 (f_X5_statement lz q i ls le la T) (fun r u1 u2 u3 u4 => if r = (0 : Int32) then f_X5_lane_L12 yd wd pc tc bl tm lz ik cu ya pa sa ta ki fi he ls st m r u1 (i + (0 : Int32)) u2 u3 u4 else f_X5_lane_L12 yd wd pc tc bl tm lz ik cu ya pa sa ta ki fi he ls st m r u1 (i + (1 : Int32)) u2 u3 u4) := by
      rw [f_X5_lane_L12, if_neg ne10]
      by_cases c : q < lz
      · rw [if_pos c]
      · have := nltT c
        rw [if_neg c, if_pos (ofEq (show i.toInt = (0 : Int32).toInt by omega))]
    rw [f_X1_misfit_L7, if_neg c80, lt1_def, here_eq hz.2 hq]
    have hI : (i + 1).toNatClampNeg = i.toNatClampNeg + 1 := by
      have h1 := clampT (x := i) hi
      have h2 := clampT (x := i + 1) (by omega)
      omega
    obtain ⟨p0, p1, p2⟩ := idx3 (i := i) (by omega)
    have key : ∀ (b : Int32) (k : Nat), f_X1_formOf (f_X5_next lz q ls) = k → ¬ sL k = 0 → f_X5_statement lz q i ls le la T = f_X5_statement_L37 lz q i ls le la T b → StR lz ls q i le la T (3 * i.toNatClampNeg) b k → ∃ r lq, (if (if sL (f_X1_formOf (f_X5_next lz q ls)) = 0 then (1 : Int32) else (0 : Int32)) = (0 : Int32) then (lt2 (f_X1_isOfForm lz (q + (1 : Int32)) ls (f_X1_formOf (f_X5_next lz q ls))) (fun r704 u704 => (if r704 = (0 : Int32) then (u704, u704) else (if u704 < lz then (f_X1_misfit_L7 lz ls n (i + (1 : Int32)) u704) else ((-1 : Int32), u704))))) else (q, q)) = (r, lq) ∧ ((0 ≤ r.toInt ∧ ∃ a s le' la' T', f_X5_lane_L12 yd wd pc tc bl tm lz ik cu ya pa sa ta ki fi he ls st (m + 1) 1 q i le la T = (-1000 - r, yd, wd, pc, tc, bl, tm, 0, a, s, ik, cu, ya, pa, sa, ta, ki, fi, he, le', la', T', st)) ∨ (r = -1 ∧ ∃ N le' la' T' P', 1 ≤ N.toInt ∧ 3 * N.toInt ≤ lz.toInt ∧ CH lz ls P' N.toNatClampNeg lz le' la' T' ∧ f_X5_lane_L12 yd wd pc tc bl tm lz ik cu ya pa sa ta ki fi he ls st (m + 1) 1 q i le la T = f_X5_lane_L86 yd wd pc tc bl tm ya pa sa ta ki fi he 41 0 yd wd pc tc bl tm 0 lz N 1 ((45 : Int32) * (1 : Int32) + (44 : Int32)) ya pa sa ta ki fi he le' la' T' (stK yd wd pc tc bl tm ya pa sa ta ki fi he st (1 : Int32)))) := by
      intro b k hk hsk hst hS
      obtain ⟨ok, q', T', g1, g2, g3, g4, g5, g6⟩ := hS
      rw [hk, if_neg hsk, if_pos (show (0 : Int32) = 0 from rfl), g1, lt2_def, hM, hst, g2, lt5_def]
      rcases g3 with e | e
      · subst e
        rw [if_pos (show (0 : Int32) = 0 from rfl), if_pos (show (0 : Int32) = 0 from rfl)]
        obtain ⟨m, rfl⟩ : ∃ z, m = z + 1 := ⟨m - 1, by omega⟩
        rw [f_X5_lane_L12, if_pos (show (0 : Int32) = 0 from rfl)]
        exact ⟨q', q', rfl, Or.inl ⟨g4.1, _, _, _, _, _, rfl⟩⟩
      · subst e
        rw [if_neg ne10, if_neg ne10]
        have hs := g6 rfl
        have hp := hs.1
        have hC2 := hC.push hs g5
        rw [← hI] at hC2
        by_cases c : q' < lz
        · have qq := ltT c
          rw [if_pos c]
          exact ih m (i + 1) q' _ _ T' _ (by omega) (by omega) (by omega) (by omega) (by omega) (Or.inl qq) hC2
        · have qq := nltT c
          have eq : q' = lz := ofEq (by omega)
          subst eq
          rw [if_neg c]
          obtain ⟨m, rfl⟩ : ∃ z, m = z + 1 := ⟨m - 1, by omega⟩
          rw [f_X5_lane_L12, if_neg ne10, if_neg c, if_neg (fun z => by have := congrArg Int32.toInt z; omega)]
          exact ⟨-1, q', rfl, Or.inr ⟨rfl, i + 1, _, _, T', _, by omega, by omega, hC2, rfl⟩⟩
    by_cases hb121 : f_X5_next lz q ls = 121
    · exact key 121 0 (by rw [hb121]; exact fm121) (by decide) (by unfold f_X5_statement; rw [lt1_def, hb121, if_pos (show (121 : Int32) = 121 from rfl)]) (st_y hz.2 hq p0 p1 p2 hb121)
    by_cases hb119 : f_X5_next lz q ls = 119
    · exact key 119 1 (by rw [hb119]; exact fm119) (by decide) (by unfold f_X5_statement; rw [lt1_def, hb119, if_neg (show ¬ (119 : Int32) = 121 by decide), if_pos (show (119 : Int32) = 119 from rfl)]) (st_w hz.2 hq p0 p1 p2 hb119)
    by_cases hb112 : f_X5_next lz q ls = 112
    · exact key 112 2 (by rw [hb112]; exact fm112) (by decide) (by unfold f_X5_statement; rw [lt1_def, hb112, if_neg (show ¬ (112 : Int32) = 121 by decide), if_neg (show ¬ (112 : Int32) = 119 by decide), if_pos (show (112 : Int32) = 112 from rfl)]) (st_p hz.2 hq p0 p1 p2 hb112)
    by_cases hb116 : f_X5_next lz q ls = 116
    · exact key 116 3 (by rw [hb116]; exact fm116) (by decide) (by unfold f_X5_statement; rw [lt1_def, hb116, if_neg (show ¬ (116 : Int32) = 121 by decide), if_neg (show ¬ (116 : Int32) = 119 by decide), if_neg (show ¬ (116 : Int32) = 112 by decide), if_pos (show (116 : Int32) = 116 from rfl)]) (st_t hz.2 hq p0 p1 p2 hb116)
    by_cases hb98 : f_X5_next lz q ls = 98
    · exact key 98 4 (by rw [hb98]; exact fm98) (by decide) (by unfold f_X5_statement; rw [lt1_def, hb98, if_neg (show ¬ (98 : Int32) = 121 by decide), if_neg (show ¬ (98 : Int32) = 119 by decide), if_neg (show ¬ (98 : Int32) = 112 by decide), if_neg (show ¬ (98 : Int32) = 116 by decide), if_pos (show (98 : Int32) = 98 from rfl)]) (st_b hz.2 hq p0 p1 p2 hb98)
    have hf : f_X1_formOf (f_X5_next lz q ls) = 5 := by
      unfold f_X1_formOf
      rw [if_neg hb98, if_neg hb112, if_neg hb116, if_neg hb119, if_neg hb121]
    have hst : f_X5_statement lz q i ls le la T = (0, q, le, la, T) := by
      unfold f_X5_statement
      rw [lt1_def, if_neg hb121, if_neg hb119, if_neg hb112, if_neg hb116, if_neg hb98]
    rw [hf, if_pos (show sL 5 = 0 by decide), if_neg ne10, hM, hst, lt5_def, if_pos (show (0 : Int32) = 0 from rfl)]
    obtain ⟨m, rfl⟩ : ∃ z, m = z + 1 := ⟨m - 1, by omega⟩
    rw [f_X5_lane_L12, if_pos (show (0 : Int32) = 0 from rfl)]
    exact ⟨q, q, rfl, Or.inl ⟨hq, _, _, _, _, _, rfl⟩⟩

