/-- one statement: class and model come to the same place, and with a good one to the same numbers -/
def StR (lz : Int32) (ls : Nat → Int32) (q i : Int32) (le la T : Nat → Int32) (J : Nat) (b : Int32) (k : Nat) : Prop := ∃ (ok q' : Int32) (T' : Nat → Int32), f_X1_isOfForm lz (q + 1) ls k = (ok, q') ∧ f_X5_statement_L37 lz q i ls le la T b = (ok, q', upd le i.toNatClampNeg b, upd la i.toNatClampNeg q, T') ∧ (ok = 0 ∨ ok = 1) ∧ (0 ≤ q'.toInt ∧ q'.toInt ≤ lz.toInt) ∧ (∀ j, j < J → T' j = T j) ∧ (ok = 1 → SR lz ls q q' b (T' J) (T' (J + 1)) (T' (J + 2)))
section ST
variable {lz q i : Int32} {ls le la T : Nat → Int32} {J : Nat}
theorem fo_def {k : Nat} : f_X1_isOfForm lz q ls k = f_X1_isOfForm_L2 lz ls k 7 0 q := by unfold f_X1_isOfForm; rfl
theorem L37_no {b a : Int32} {T' : Nat → Int32} (h : f_X5_readsAll lz (q + 1) ls T b ((3 : Int32) * i) = (0, a, T')) : f_X5_statement_L37 lz q i ls le la T b = (0, a, upd le i.toNatClampNeg b, upd la i.toNatClampNeg q, T') := by
  unfold f_X5_statement_L37
  rw [h, lt3_def, if_pos rfl]
theorem L37_ok {b a : Int32} {T' : Nat → Int32} (h : f_X5_readsAll lz (q + 1) ls T b ((3 : Int32) * i) = (1, a, T')) (h2 : f_X5_next lz a ls = 59) : f_X5_statement_L37 lz q i ls le la T b = (1, a + 1, upd le i.toNatClampNeg b, upd la i.toNatClampNeg q, T') := by
  unfold f_X5_statement_L37
  rw [h, lt3_def, if_neg ne10, lt1_def, if_pos h2]
theorem L37_se {b a : Int32} {T' : Nat → Int32} (h : f_X5_readsAll lz (q + 1) ls T b ((3 : Int32) * i) = (1, a, T')) (h2 : ¬ f_X5_next lz a ls = 59) : f_X5_statement_L37 lz q i ls le la T b = (0, a, upd le i.toNatClampNeg b, upd la i.toNatClampNeg q, T') := by
  unfold f_X5_statement_L37
  rw [h, lt3_def, if_neg ne10, lt1_def, if_neg h2]
theorem st_y (hz : lz.toInt ≤ 80) (hq : 0 ≤ q.toInt) (hp0 : ((3 : Int32) * i).toNatClampNeg = J) (hp1 : ((3 : Int32) * i + 1).toNatClampNeg = J + 1) (hp2 : ((3 : Int32) * i + 2).toNatClampNeg = J + 2) (hb : f_X5_next lz q ls = 121) : StR lz ls q i le la T J 121 0 := by
  have a0 := adv_c hb (by decide)
  have i1 : (q + 1).toInt = q.toInt + 1 := inc_lt (ofLt a0)
  by_cases c1 : DG lz ls (q + 1) = 0
  · skip
    refine ⟨0, q + 1, T, ?_, ?_, Or.inl rfl, ⟨by omega, by omega⟩, fun _ _ => rfl, fun h => absurd h (by decide)⟩
    · rw [fo_def, stD (by decide) (by decide) hz (by omega), if_pos c1]
    · exact L37_no (by rw [ra_121, rn_2, if_pos c1])
  · obtain ⟨b1, d1⟩ := adv c1
    have i2 : (q + 1 + 1).toInt = q.toInt + 2 := by have := inc_lt (ofLt b1); omega
    by_cases c2 : DG lz ls (q + 1 + 1) = 0
    · skip
      by_cases c3 : f_X5_next lz (q + 1 + 1) ls = 59
      · have b2 := adv_c c3 (by decide)
        have i3 : (q + 1 + 1 + 1).toInt = q.toInt + 3 := by have := inc_lt (ofLt b2); omega
        refine ⟨1, q + 1 + 1 + 1, upd T J (f_X5_next lz (q + 1) ls - 48), ?_, ?_, Or.inr rfl, ⟨by omega, by omega⟩, fun j hj => by rw [upd_ne _ _ (show j ≠ _ by omega)], fun _ => ?_⟩
        · rw [fo_def, stD (by decide) (by decide) hz (by omega), if_neg c1, stQ (by decide) (by decide) hz (by omega), if_pos c2, stC (c := 59) (by decide) (by decide) (by decide) (by decide) (by decide) hz (by omega), if_pos c3, stE (by decide)]
        · exact L37_ok (by rw [ra_121, rn_2, if_neg c1, if_pos c2, hp0]) c3
        · rw [upd_self]
          exact SR_y1 hz hq hb c2 _ _ i1 i2 i3 (by omega)
      · skip
        refine ⟨0, q + 1 + 1, upd T J (f_X5_next lz (q + 1) ls - 48), ?_, ?_, Or.inl rfl, ⟨by omega, by omega⟩, fun j hj => by rw [upd_ne _ _ (show j ≠ _ by omega)], fun h => absurd h (by decide)⟩
        · rw [fo_def, stD (by decide) (by decide) hz (by omega), if_neg c1, stQ (by decide) (by decide) hz (by omega), if_pos c2, stC (c := 59) (by decide) (by decide) (by decide) (by decide) (by decide) hz (by omega), if_neg c3]
        · exact L37_se (by rw [ra_121, rn_2, if_neg c1, if_pos c2, hp0]) c3
    · obtain ⟨b2, d2⟩ := adv c2
      have i3 : (q + 1 + 1 + 1).toInt = q.toInt + 3 := by have := inc_lt (ofLt b2); omega
      by_cases c4 : f_X5_next lz (q + 1 + 1 + 1) ls = 59
      · have b3 := adv_c c4 (by decide)
        have i4 : (q + 1 + 1 + 1 + 1).toInt = q.toInt + 4 := by have := inc_lt (ofLt b3); omega
        refine ⟨1, q + 1 + 1 + 1 + 1, upd T J (10 * (f_X5_next lz (q + 1) ls - 48) + (f_X5_next lz (q + 1 + 1) ls - 48)), ?_, ?_, Or.inr rfl, ⟨by omega, by omega⟩, fun j hj => by rw [upd_ne _ _ (show j ≠ _ by omega)], fun _ => ?_⟩
        · rw [fo_def, stD (by decide) (by decide) hz (by omega), if_neg c1, stQ (by decide) (by decide) hz (by omega), if_neg c2, stC (c := 59) (by decide) (by decide) (by decide) (by decide) (by decide) hz (by omega), if_pos c4, stE (by decide)]
        · exact L37_ok (by rw [ra_121, rn_2, if_neg c1, if_neg c2, hp0]) c4
        · rw [upd_self]
          exact SR_y2 hz hq hb c2 _ _ i1 i2 i3 i4 (by omega)
      · skip
        refine ⟨0, q + 1 + 1 + 1, upd T J (10 * (f_X5_next lz (q + 1) ls - 48) + (f_X5_next lz (q + 1 + 1) ls - 48)), ?_, ?_, Or.inl rfl, ⟨by omega, by omega⟩, fun j hj => by rw [upd_ne _ _ (show j ≠ _ by omega)], fun h => absurd h (by decide)⟩
        · rw [fo_def, stD (by decide) (by decide) hz (by omega), if_neg c1, stQ (by decide) (by decide) hz (by omega), if_neg c2, stC (c := 59) (by decide) (by decide) (by decide) (by decide) (by decide) hz (by omega), if_neg c4]
        · exact L37_se (by rw [ra_121, rn_2, if_neg c1, if_neg c2, hp0]) c4
theorem st_b (hz : lz.toInt ≤ 80) (hq : 0 ≤ q.toInt) (hp0 : ((3 : Int32) * i).toNatClampNeg = J) (hp1 : ((3 : Int32) * i + 1).toNatClampNeg = J + 1) (hp2 : ((3 : Int32) * i + 2).toNatClampNeg = J + 2) (hb : f_X5_next lz q ls = 98) : StR lz ls q i le la T J 98 4 := by
  have a0 := adv_c hb (by decide)
  have i1 : (q + 1).toInt = q.toInt + 1 := inc_lt (ofLt a0)
  by_cases c5 : DG lz ls (q + 1) = 0
  · skip
    refine ⟨0, q + 1, T, ?_, ?_, Or.inl rfl, ⟨by omega, by omega⟩, fun _ _ => rfl, fun h => absurd h (by decide)⟩
    · rw [fo_def, stD (by decide) (by decide) hz (by omega), if_pos c5]
    · exact L37_no (by rw [ra_98, rn_1, if_pos c5])
  · obtain ⟨b1, d1⟩ := adv c5
    have i2 : (q + 1 + 1).toInt = q.toInt + 2 := by have := inc_lt (ofLt b1); omega
    by_cases c6 : f_X5_next lz (q + 1 + 1) ls = 59
    · have b2 := adv_c c6 (by decide)
      have i3 : (q + 1 + 1 + 1).toInt = q.toInt + 3 := by have := inc_lt (ofLt b2); omega
      refine ⟨1, q + 1 + 1 + 1, upd T J (f_X5_next lz (q + 1) ls - 48), ?_, ?_, Or.inr rfl, ⟨by omega, by omega⟩, fun j hj => by rw [upd_ne _ _ (show j ≠ _ by omega)], fun _ => ?_⟩
      · rw [fo_def, stD (by decide) (by decide) hz (by omega), if_neg c5, stC (c := 59) (by decide) (by decide) (by decide) (by decide) (by decide) hz (by omega), if_pos c6, stE (by decide)]
      · exact L37_ok (by rw [ra_98, rn_1, if_neg c5, hp0]) c6
      · rw [upd_self]
        exact SR_b hz hq hb _ _ i1 i2 i3 (by omega)
    · skip
      refine ⟨0, q + 1 + 1, upd T J (f_X5_next lz (q + 1) ls - 48), ?_, ?_, Or.inl rfl, ⟨by omega, by omega⟩, fun j hj => by rw [upd_ne _ _ (show j ≠ _ by omega)], fun h => absurd h (by decide)⟩
      · rw [fo_def, stD (by decide) (by decide) hz (by omega), if_neg c5, stC (c := 59) (by decide) (by decide) (by decide) (by decide) (by decide) hz (by omega), if_neg c6]
      · exact L37_se (by rw [ra_98, rn_1, if_neg c5, hp0]) c6
theorem st_t (hz : lz.toInt ≤ 80) (hq : 0 ≤ q.toInt) (hp0 : ((3 : Int32) * i).toNatClampNeg = J) (hp1 : ((3 : Int32) * i + 1).toNatClampNeg = J + 1) (hp2 : ((3 : Int32) * i + 2).toNatClampNeg = J + 2) (hb : f_X5_next lz q ls = 116) : StR lz ls q i le la T J 116 3 := by
  have a0 := adv_c hb (by decide)
  have i1 : (q + 1).toInt = q.toInt + 1 := inc_lt (ofLt a0)
  by_cases c7 : DG lz ls (q + 1) = 0
  · skip
    refine ⟨0, q + 1, T, ?_, ?_, Or.inl rfl, ⟨by omega, by omega⟩, fun _ _ => rfl, fun h => absurd h (by decide)⟩
    · rw [fo_def, stD (by decide) (by decide) hz (by omega), if_pos c7]
    · exact L37_no (by rw [ra_116, rn_1, if_pos c7, lt3_def, if_pos rfl])
  · obtain ⟨b1, d1⟩ := adv c7
    have i2 : (q + 1 + 1).toInt = q.toInt + 2 := by have := inc_lt (ofLt b1); omega
    by_cases c8 : DG lz ls (q + 1 + 1) = 0
    · skip
      refine ⟨0, q + 1 + 1, upd T J (f_X5_next lz (q + 1) ls - 48), ?_, ?_, Or.inl rfl, ⟨by omega, by omega⟩, fun j hj => by rw [upd_ne _ _ (show j ≠ _ by omega)], fun h => absurd h (by decide)⟩
      · rw [fo_def, stD (by decide) (by decide) hz (by omega), if_neg c7, stD (by decide) (by decide) hz (by omega), if_pos c8]
      · exact L37_no (by rw [ra_116, rn_1, if_neg c7, lt3_def, if_neg ne10, rn_1, if_pos c8, lt3_def, if_pos rfl, hp0])
    · obtain ⟨b2, d2⟩ := adv c8
      have i3 : (q + 1 + 1 + 1).toInt = q.toInt + 3 := by have := inc_lt (ofLt b2); omega
      by_cases c9 : DG lz ls (q + 1 + 1 + 1) = 0
      · skip
        refine ⟨0, q + 1 + 1 + 1, upd (upd T J (f_X5_next lz (q + 1) ls - 48)) (J + 1) (f_X5_next lz (q + 1 + 1) ls - 48), ?_, ?_, Or.inl rfl, ⟨by omega, by omega⟩, fun j hj => by rw [upd_ne _ _ (show j ≠ _ by omega), upd_ne _ _ (show j ≠ _ by omega)], fun h => absurd h (by decide)⟩
        · rw [fo_def, stD (by decide) (by decide) hz (by omega), if_neg c7, stD (by decide) (by decide) hz (by omega), if_neg c8, stD (by decide) (by decide) hz (by omega), if_pos c9]
        · exact L37_no (by rw [ra_116, rn_1, if_neg c7, lt3_def, if_neg ne10, rn_1, if_neg c8, lt3_def, if_neg ne10, rn_1, if_pos c9, lt3_def, if_pos rfl, hp0, hp1])
      · obtain ⟨b3, d3⟩ := adv c9
        have i4 : (q + 1 + 1 + 1 + 1).toInt = q.toInt + 4 := by have := inc_lt (ofLt b3); omega
        by_cases c10 : f_X5_next lz (q + 1 + 1 + 1 + 1) ls = 59
        · have b4 := adv_c c10 (by decide)
          have i5 : (q + 1 + 1 + 1 + 1 + 1).toInt = q.toInt + 5 := by have := inc_lt (ofLt b4); omega
          refine ⟨1, q + 1 + 1 + 1 + 1 + 1, upd (upd (upd T J (f_X5_next lz (q + 1) ls - 48)) (J + 1) (f_X5_next lz (q + 1 + 1) ls - 48)) (J + 2) (f_X5_next lz (q + 1 + 1 + 1) ls - 48), ?_, ?_, Or.inr rfl, ⟨by omega, by omega⟩, fun j hj => by rw [upd_ne _ _ (show j ≠ _ by omega), upd_ne _ _ (show j ≠ _ by omega), upd_ne _ _ (show j ≠ _ by omega)], fun _ => ?_⟩
          · rw [fo_def, stD (by decide) (by decide) hz (by omega), if_neg c7, stD (by decide) (by decide) hz (by omega), if_neg c8, stD (by decide) (by decide) hz (by omega), if_neg c9, stC (c := 59) (by decide) (by decide) (by decide) (by decide) (by decide) hz (by omega), if_pos c10, stE (by decide)]
          · exact L37_ok (by rw [ra_116, rn_1, if_neg c7, lt3_def, if_neg ne10, rn_1, if_neg c8, lt3_def, if_neg ne10, rn_1, if_neg c9, lt3_def, if_neg ne10, hp0, hp1, hp2]) c10
          · have e0 : (upd (upd (upd T J (f_X5_next lz (q + 1) ls - 48)) (J + 1) (f_X5_next lz (q + 1 + 1) ls - 48)) (J + 2) (f_X5_next lz (q + 1 + 1 + 1) ls - 48)) J = (f_X5_next lz (q + 1) ls - 48) := by rw [upd_ne _ _ (show J ≠ _ by omega), upd_ne _ _ (show J ≠ _ by omega), upd_self]
            have e1 : (upd (upd (upd T J (f_X5_next lz (q + 1) ls - 48)) (J + 1) (f_X5_next lz (q + 1 + 1) ls - 48)) (J + 2) (f_X5_next lz (q + 1 + 1 + 1) ls - 48)) (J + 1) = (f_X5_next lz (q + 1 + 1) ls - 48) := by rw [upd_ne _ _ (show J + 1 ≠ _ by omega), upd_self]
            have e2 : (upd (upd (upd T J (f_X5_next lz (q + 1) ls - 48)) (J + 1) (f_X5_next lz (q + 1 + 1) ls - 48)) (J + 2) (f_X5_next lz (q + 1 + 1 + 1) ls - 48)) (J + 2) = (f_X5_next lz (q + 1 + 1 + 1) ls - 48) := by rw [upd_self]
            rw [e0, e1, e2]
            exact SR_t hz hq hb i1 i2 i3 i4 i5 (by omega) d1 d2 d3
        · skip
          refine ⟨0, q + 1 + 1 + 1 + 1, upd (upd (upd T J (f_X5_next lz (q + 1) ls - 48)) (J + 1) (f_X5_next lz (q + 1 + 1) ls - 48)) (J + 2) (f_X5_next lz (q + 1 + 1 + 1) ls - 48), ?_, ?_, Or.inl rfl, ⟨by omega, by omega⟩, fun j hj => by rw [upd_ne _ _ (show j ≠ _ by omega), upd_ne _ _ (show j ≠ _ by omega), upd_ne _ _ (show j ≠ _ by omega)], fun h => absurd h (by decide)⟩
          · rw [fo_def, stD (by decide) (by decide) hz (by omega), if_neg c7, stD (by decide) (by decide) hz (by omega), if_neg c8, stD (by decide) (by decide) hz (by omega), if_neg c9, stC (c := 59) (by decide) (by decide) (by decide) (by decide) (by decide) hz (by omega), if_neg c10]
          · exact L37_se (by rw [ra_116, rn_1, if_neg c7, lt3_def, if_neg ne10, rn_1, if_neg c8, lt3_def, if_neg ne10, rn_1, if_neg c9, lt3_def, if_neg ne10, hp0, hp1, hp2]) c10
theorem st_w (hz : lz.toInt ≤ 80) (hq : 0 ≤ q.toInt) (hp0 : ((3 : Int32) * i).toNatClampNeg = J) (hp1 : ((3 : Int32) * i + 1).toNatClampNeg = J + 1) (hp2 : ((3 : Int32) * i + 2).toNatClampNeg = J + 2) (hb : f_X5_next lz q ls = 119) : StR lz ls q i le la T J 119 1 := by
  have a0 := adv_c hb (by decide)
  have i1 : (q + 1).toInt = q.toInt + 1 := inc_lt (ofLt a0)
  by_cases p1 : f_X5_next lz (q + 1) ls = 43
  · have b1 := adv_c p1 (by decide)
    have i2 : (q + 1 + 1).toInt = q.toInt + 2 := by have := inc_lt (ofLt b1); omega
    by_cases c11 : DG lz ls (q + 1 + 1) = 0
    · skip
      refine ⟨0, q + 1 + 1, T, ?_, ?_, Or.inl rfl, ⟨by omega, by omega⟩, fun _ _ => rfl, fun h => absurd h (by decide)⟩
      · rw [fo_def, stP (by decide) (by decide) hz (by omega), if_pos p1, stD (by decide) (by decide) hz (by omega), if_pos c11]
      · exact L37_no (by rw [ra_119, f_X5_readsWind, lt1_def, if_pos p1, rn_1, if_pos c11, lt3_def, if_pos rfl])
    · obtain ⟨b2, d2⟩ := adv c11
      have i3 : (q + 1 + 1 + 1).toInt = q.toInt + 3 := by have := inc_lt (ofLt b2); omega
      by_cases c12 : f_X5_next lz (q + 1 + 1 + 1) ls = 59
      · have b3 := adv_c c12 (by decide)
        have i4 : (q + 1 + 1 + 1 + 1).toInt = q.toInt + 4 := by have := inc_lt (ofLt b3); omega
        refine ⟨1, q + 1 + 1 + 1 + 1, upd T J ((f_X5_next lz (q + 1 + 1) ls - 48) * 1), ?_, ?_, Or.inr rfl, ⟨by omega, by omega⟩, fun j hj => by rw [upd_ne _ _ (show j ≠ _ by omega)], fun _ => ?_⟩
        · rw [fo_def, stP (by decide) (by decide) hz (by omega), if_pos p1, stD (by decide) (by decide) hz (by omega), if_neg c11, stC (c := 59) (by decide) (by decide) (by decide) (by decide) (by decide) hz (by omega), if_pos c12, stE (by decide)]
        · exact L37_ok (by rw [ra_119, f_X5_readsWind, lt1_def, if_pos p1, rn_1, if_neg c11, lt3_def, if_neg ne10, upd_self, upd_upd, hp0]) c12
        · rw [upd_self]
          exact SR_w2 hz hq hb (fun z => by rw [p1] at z; exact absurd z (by decide)) _ _ i1 i2 i3 i4 (by omega)
      · skip
        refine ⟨0, q + 1 + 1 + 1, upd T J ((f_X5_next lz (q + 1 + 1) ls - 48) * 1), ?_, ?_, Or.inl rfl, ⟨by omega, by omega⟩, fun j hj => by rw [upd_ne _ _ (show j ≠ _ by omega)], fun h => absurd h (by decide)⟩
        · rw [fo_def, stP (by decide) (by decide) hz (by omega), if_pos p1, stD (by decide) (by decide) hz (by omega), if_neg c11, stC (c := 59) (by decide) (by decide) (by decide) (by decide) (by decide) hz (by omega), if_neg c12]
        · exact L37_se (by rw [ra_119, f_X5_readsWind, lt1_def, if_pos p1, rn_1, if_neg c11, lt3_def, if_neg ne10, upd_self, upd_upd, hp0]) c12
  · by_cases p2 : f_X5_next lz (q + 1) ls = 45
    · have b1 := adv_c p2 (by decide)
      have i2 : (q + 1 + 1).toInt = q.toInt + 2 := by have := inc_lt (ofLt b1); omega
      by_cases c13 : DG lz ls (q + 1 + 1) = 0
      · skip
        refine ⟨0, q + 1 + 1, T, ?_, ?_, Or.inl rfl, ⟨by omega, by omega⟩, fun _ _ => rfl, fun h => absurd h (by decide)⟩
        · rw [fo_def, stP (by decide) (by decide) hz (by omega), if_neg p1, if_pos p2, stD (by decide) (by decide) hz (by omega), if_pos c13]
        · exact L37_no (by rw [ra_119, f_X5_readsWind, lt1_def, if_neg p1, lt1_def, if_pos p2, rn_1, if_pos c13, lt3_def, if_pos rfl])
      · obtain ⟨b2, d2⟩ := adv c13
        have i3 : (q + 1 + 1 + 1).toInt = q.toInt + 3 := by have := inc_lt (ofLt b2); omega
        by_cases c14 : f_X5_next lz (q + 1 + 1 + 1) ls = 59
        · have b3 := adv_c c14 (by decide)
          have i4 : (q + 1 + 1 + 1 + 1).toInt = q.toInt + 4 := by have := inc_lt (ofLt b3); omega
          refine ⟨1, q + 1 + 1 + 1 + 1, upd T J ((f_X5_next lz (q + 1 + 1) ls - 48) * -1), ?_, ?_, Or.inr rfl, ⟨by omega, by omega⟩, fun j hj => by rw [upd_ne _ _ (show j ≠ _ by omega)], fun _ => ?_⟩
          · rw [fo_def, stP (by decide) (by decide) hz (by omega), if_neg p1, if_pos p2, stD (by decide) (by decide) hz (by omega), if_neg c13, stC (c := 59) (by decide) (by decide) (by decide) (by decide) (by decide) hz (by omega), if_pos c14, stE (by decide)]
          · exact L37_ok (by rw [ra_119, f_X5_readsWind, lt1_def, if_neg p1, lt1_def, if_pos p2, rn_1, if_neg c13, lt3_def, if_neg ne10, upd_self, upd_upd, hp0]) c14
          · rw [upd_self]
            exact SR_w1 hz hq hb p2 _ _ i1 i2 i3 i4 (by omega)
        · skip
          refine ⟨0, q + 1 + 1 + 1, upd T J ((f_X5_next lz (q + 1 + 1) ls - 48) * -1), ?_, ?_, Or.inl rfl, ⟨by omega, by omega⟩, fun j hj => by rw [upd_ne _ _ (show j ≠ _ by omega)], fun h => absurd h (by decide)⟩
          · rw [fo_def, stP (by decide) (by decide) hz (by omega), if_neg p1, if_pos p2, stD (by decide) (by decide) hz (by omega), if_neg c13, stC (c := 59) (by decide) (by decide) (by decide) (by decide) (by decide) hz (by omega), if_neg c14]
          · exact L37_se (by rw [ra_119, f_X5_readsWind, lt1_def, if_neg p1, lt1_def, if_pos p2, rn_1, if_neg c13, lt3_def, if_neg ne10, upd_self, upd_upd, hp0]) c14
    · skip
      refine ⟨0, q + 1, T, ?_, ?_, Or.inl rfl, ⟨by omega, by omega⟩, fun _ _ => rfl, fun h => absurd h (by decide)⟩
      · rw [fo_def, stP (by decide) (by decide) hz (by omega), if_neg p1, if_neg p2]
      · exact L37_no (by rw [ra_119, f_X5_readsWind, lt1_def, if_neg p1, lt1_def, if_neg p2])
theorem st_p (hz : lz.toInt ≤ 80) (hq : 0 ≤ q.toInt) (hp0 : ((3 : Int32) * i).toNatClampNeg = J) (hp1 : ((3 : Int32) * i + 1).toNatClampNeg = J + 1) (hp2 : ((3 : Int32) * i + 2).toNatClampNeg = J + 2) (hb : f_X5_next lz q ls = 112) : StR lz ls q i le la T J 112 2 := by
  have a0 := adv_c hb (by decide)
  have i1 : (q + 1).toInt = q.toInt + 1 := inc_lt (ofLt a0)
  by_cases c15 : DG lz ls (q + 1) = 0
  · skip
    refine ⟨0, q + 1, T, ?_, ?_, Or.inl rfl, ⟨by omega, by omega⟩, fun _ _ => rfl, fun h => absurd h (by decide)⟩
    · rw [fo_def, stD (by decide) (by decide) hz (by omega), if_pos c15]
    · exact L37_no (by rw [ra_112, f_X5_readsPlayer, rn_2, if_pos c15, lt3_def, if_pos rfl])
  · obtain ⟨b1, d1⟩ := adv c15
    have i2 : (q + 1 + 1).toInt = q.toInt + 2 := by have := inc_lt (ofLt b1); omega
    by_cases c16 : DG lz ls (q + 1 + 1) = 0
    · skip
      by_cases c17 : f_X5_next lz (q + 1 + 1) ls = 44
      · have b2 := adv_c c17 (by decide)
        have i3 : (q + 1 + 1 + 1).toInt = q.toInt + 3 := by have := inc_lt (ofLt b2); omega
        by_cases c18 : DG lz ls (q + 1 + 1 + 1) = 0
        · skip
          refine ⟨0, q + 1 + 1 + 1, upd T J (f_X5_next lz (q + 1) ls - 48), ?_, ?_, Or.inl rfl, ⟨by omega, by omega⟩, fun j hj => by rw [upd_ne _ _ (show j ≠ _ by omega)], fun h => absurd h (by decide)⟩
          · rw [fo_def, stD (by decide) (by decide) hz (by omega), if_neg c15, stQ (by decide) (by decide) hz (by omega), if_pos c16, stC (c := 44) (by decide) (by decide) (by decide) (by decide) (by decide) hz (by omega), if_pos c17, stD (by decide) (by decide) hz (by omega), if_pos c18]
          · exact L37_no (by rw [ra_112, f_X5_readsPlayer, rn_2, if_neg c15, if_pos c16, lt3_def, if_neg ne10, lt1_def, if_pos c17, rn_1, if_pos c18, lt3_def, if_pos rfl, hp0])
        · obtain ⟨b3, d3⟩ := adv c18
          have i4 : (q + 1 + 1 + 1 + 1).toInt = q.toInt + 4 := by have := inc_lt (ofLt b3); omega
          by_cases c19 : DG lz ls (q + 1 + 1 + 1 + 1) = 0
          · skip
            refine ⟨0, q + 1 + 1 + 1 + 1, upd (upd T J (f_X5_next lz (q + 1) ls - 48)) (J + 1) (f_X5_next lz (q + 1 + 1 + 1) ls - 48), ?_, ?_, Or.inl rfl, ⟨by omega, by omega⟩, fun j hj => by rw [upd_ne _ _ (show j ≠ _ by omega), upd_ne _ _ (show j ≠ _ by omega)], fun h => absurd h (by decide)⟩
            · rw [fo_def, stD (by decide) (by decide) hz (by omega), if_neg c15, stQ (by decide) (by decide) hz (by omega), if_pos c16, stC (c := 44) (by decide) (by decide) (by decide) (by decide) (by decide) hz (by omega), if_pos c17, stD (by decide) (by decide) hz (by omega), if_neg c18, stD (by decide) (by decide) hz (by omega), if_pos c19]
            · exact L37_no (by rw [ra_112, f_X5_readsPlayer, rn_2, if_neg c15, if_pos c16, lt3_def, if_neg ne10, lt1_def, if_pos c17, rn_1, if_neg c18, lt3_def, if_neg ne10, rn_1, if_pos c19, lt3_def, if_pos rfl, hp0, hp1])
          · obtain ⟨b4, d4⟩ := adv c19
            have i5 : (q + 1 + 1 + 1 + 1 + 1).toInt = q.toInt + 5 := by have := inc_lt (ofLt b4); omega
            by_cases c20 : f_X5_next lz (q + 1 + 1 + 1 + 1 + 1) ls = 59
            · have b5 := adv_c c20 (by decide)
              have i6 : (q + 1 + 1 + 1 + 1 + 1 + 1).toInt = q.toInt + 6 := by have := inc_lt (ofLt b5); omega
              refine ⟨1, q + 1 + 1 + 1 + 1 + 1 + 1, upd (upd (upd T J (f_X5_next lz (q + 1) ls - 48)) (J + 1) (f_X5_next lz (q + 1 + 1 + 1) ls - 48)) (J + 2) (f_X5_next lz (q + 1 + 1 + 1 + 1) ls - 48), ?_, ?_, Or.inr rfl, ⟨by omega, by omega⟩, fun j hj => by rw [upd_ne _ _ (show j ≠ _ by omega), upd_ne _ _ (show j ≠ _ by omega), upd_ne _ _ (show j ≠ _ by omega)], fun _ => ?_⟩
              · rw [fo_def, stD (by decide) (by decide) hz (by omega), if_neg c15, stQ (by decide) (by decide) hz (by omega), if_pos c16, stC (c := 44) (by decide) (by decide) (by decide) (by decide) (by decide) hz (by omega), if_pos c17, stD (by decide) (by decide) hz (by omega), if_neg c18, stD (by decide) (by decide) hz (by omega), if_neg c19, stC (c := 59) (by decide) (by decide) (by decide) (by decide) (by decide) hz (by omega), if_pos c20, stE (by decide)]
              · exact L37_ok (by rw [ra_112, f_X5_readsPlayer, rn_2, if_neg c15, if_pos c16, lt3_def, if_neg ne10, lt1_def, if_pos c17, rn_1, if_neg c18, lt3_def, if_neg ne10, rn_1, if_neg c19, lt3_def, if_neg ne10, hp0, hp1, hp2]) c20
              · have e0 : (upd (upd (upd T J (f_X5_next lz (q + 1) ls - 48)) (J + 1) (f_X5_next lz (q + 1 + 1 + 1) ls - 48)) (J + 2) (f_X5_next lz (q + 1 + 1 + 1 + 1) ls - 48)) J = (f_X5_next lz (q + 1) ls - 48) := by rw [upd_ne _ _ (show J ≠ _ by omega), upd_ne _ _ (show J ≠ _ by omega), upd_self]
                have e1 : (upd (upd (upd T J (f_X5_next lz (q + 1) ls - 48)) (J + 1) (f_X5_next lz (q + 1 + 1 + 1) ls - 48)) (J + 2) (f_X5_next lz (q + 1 + 1 + 1 + 1) ls - 48)) (J + 1) = (f_X5_next lz (q + 1 + 1 + 1) ls - 48) := by rw [upd_ne _ _ (show J + 1 ≠ _ by omega), upd_self]
                have e2 : (upd (upd (upd T J (f_X5_next lz (q + 1) ls - 48)) (J + 1) (f_X5_next lz (q + 1 + 1 + 1) ls - 48)) (J + 2) (f_X5_next lz (q + 1 + 1 + 1 + 1) ls - 48)) (J + 2) = (f_X5_next lz (q + 1 + 1 + 1 + 1) ls - 48) := by rw [upd_self]
                rw [e0, e1, e2]
                exact SR_p1 hz hq hb c16 i1 i2 i3 i4 i5 i6 (by omega) (by omega) d3 d4
            · skip
              refine ⟨0, q + 1 + 1 + 1 + 1 + 1, upd (upd (upd T J (f_X5_next lz (q + 1) ls - 48)) (J + 1) (f_X5_next lz (q + 1 + 1 + 1) ls - 48)) (J + 2) (f_X5_next lz (q + 1 + 1 + 1 + 1) ls - 48), ?_, ?_, Or.inl rfl, ⟨by omega, by omega⟩, fun j hj => by rw [upd_ne _ _ (show j ≠ _ by omega), upd_ne _ _ (show j ≠ _ by omega), upd_ne _ _ (show j ≠ _ by omega)], fun h => absurd h (by decide)⟩
              · rw [fo_def, stD (by decide) (by decide) hz (by omega), if_neg c15, stQ (by decide) (by decide) hz (by omega), if_pos c16, stC (c := 44) (by decide) (by decide) (by decide) (by decide) (by decide) hz (by omega), if_pos c17, stD (by decide) (by decide) hz (by omega), if_neg c18, stD (by decide) (by decide) hz (by omega), if_neg c19, stC (c := 59) (by decide) (by decide) (by decide) (by decide) (by decide) hz (by omega), if_neg c20]
              · exact L37_se (by rw [ra_112, f_X5_readsPlayer, rn_2, if_neg c15, if_pos c16, lt3_def, if_neg ne10, lt1_def, if_pos c17, rn_1, if_neg c18, lt3_def, if_neg ne10, rn_1, if_neg c19, lt3_def, if_neg ne10, hp0, hp1, hp2]) c20
      · skip
        refine ⟨0, q + 1 + 1, upd T J (f_X5_next lz (q + 1) ls - 48), ?_, ?_, Or.inl rfl, ⟨by omega, by omega⟩, fun j hj => by rw [upd_ne _ _ (show j ≠ _ by omega)], fun h => absurd h (by decide)⟩
        · rw [fo_def, stD (by decide) (by decide) hz (by omega), if_neg c15, stQ (by decide) (by decide) hz (by omega), if_pos c16, stC (c := 44) (by decide) (by decide) (by decide) (by decide) (by decide) hz (by omega), if_neg c17]
        · exact L37_no (by rw [ra_112, f_X5_readsPlayer, rn_2, if_neg c15, if_pos c16, lt3_def, if_neg ne10, lt1_def, if_neg c17, hp0])
    · obtain ⟨b2, d2⟩ := adv c16
      have i3 : (q + 1 + 1 + 1).toInt = q.toInt + 3 := by have := inc_lt (ofLt b2); omega
      by_cases c21 : f_X5_next lz (q + 1 + 1 + 1) ls = 44
      · have b3 := adv_c c21 (by decide)
        have i4 : (q + 1 + 1 + 1 + 1).toInt = q.toInt + 4 := by have := inc_lt (ofLt b3); omega
        by_cases c22 : DG lz ls (q + 1 + 1 + 1 + 1) = 0
        · skip
          refine ⟨0, q + 1 + 1 + 1 + 1, upd T J (10 * (f_X5_next lz (q + 1) ls - 48) + (f_X5_next lz (q + 1 + 1) ls - 48)), ?_, ?_, Or.inl rfl, ⟨by omega, by omega⟩, fun j hj => by rw [upd_ne _ _ (show j ≠ _ by omega)], fun h => absurd h (by decide)⟩
          · rw [fo_def, stD (by decide) (by decide) hz (by omega), if_neg c15, stQ (by decide) (by decide) hz (by omega), if_neg c16, stC (c := 44) (by decide) (by decide) (by decide) (by decide) (by decide) hz (by omega), if_pos c21, stD (by decide) (by decide) hz (by omega), if_pos c22]
          · exact L37_no (by rw [ra_112, f_X5_readsPlayer, rn_2, if_neg c15, if_neg c16, lt3_def, if_neg ne10, lt1_def, if_pos c21, rn_1, if_pos c22, lt3_def, if_pos rfl, hp0])
        · obtain ⟨b4, d4⟩ := adv c22
          have i5 : (q + 1 + 1 + 1 + 1 + 1).toInt = q.toInt + 5 := by have := inc_lt (ofLt b4); omega
          by_cases c23 : DG lz ls (q + 1 + 1 + 1 + 1 + 1) = 0
          · skip
            refine ⟨0, q + 1 + 1 + 1 + 1 + 1, upd (upd T J (10 * (f_X5_next lz (q + 1) ls - 48) + (f_X5_next lz (q + 1 + 1) ls - 48))) (J + 1) (f_X5_next lz (q + 1 + 1 + 1 + 1) ls - 48), ?_, ?_, Or.inl rfl, ⟨by omega, by omega⟩, fun j hj => by rw [upd_ne _ _ (show j ≠ _ by omega), upd_ne _ _ (show j ≠ _ by omega)], fun h => absurd h (by decide)⟩
            · rw [fo_def, stD (by decide) (by decide) hz (by omega), if_neg c15, stQ (by decide) (by decide) hz (by omega), if_neg c16, stC (c := 44) (by decide) (by decide) (by decide) (by decide) (by decide) hz (by omega), if_pos c21, stD (by decide) (by decide) hz (by omega), if_neg c22, stD (by decide) (by decide) hz (by omega), if_pos c23]
            · exact L37_no (by rw [ra_112, f_X5_readsPlayer, rn_2, if_neg c15, if_neg c16, lt3_def, if_neg ne10, lt1_def, if_pos c21, rn_1, if_neg c22, lt3_def, if_neg ne10, rn_1, if_pos c23, lt3_def, if_pos rfl, hp0, hp1])
          · obtain ⟨b5, d5⟩ := adv c23
            have i6 : (q + 1 + 1 + 1 + 1 + 1 + 1).toInt = q.toInt + 6 := by have := inc_lt (ofLt b5); omega
            by_cases c24 : f_X5_next lz (q + 1 + 1 + 1 + 1 + 1 + 1) ls = 59
            · have b6 := adv_c c24 (by decide)
              have i7 : (q + 1 + 1 + 1 + 1 + 1 + 1 + 1).toInt = q.toInt + 7 := by have := inc_lt (ofLt b6); omega
              refine ⟨1, q + 1 + 1 + 1 + 1 + 1 + 1 + 1, upd (upd (upd T J (10 * (f_X5_next lz (q + 1) ls - 48) + (f_X5_next lz (q + 1 + 1) ls - 48))) (J + 1) (f_X5_next lz (q + 1 + 1 + 1 + 1) ls - 48)) (J + 2) (f_X5_next lz (q + 1 + 1 + 1 + 1 + 1) ls - 48), ?_, ?_, Or.inr rfl, ⟨by omega, by omega⟩, fun j hj => by rw [upd_ne _ _ (show j ≠ _ by omega), upd_ne _ _ (show j ≠ _ by omega), upd_ne _ _ (show j ≠ _ by omega)], fun _ => ?_⟩
              · rw [fo_def, stD (by decide) (by decide) hz (by omega), if_neg c15, stQ (by decide) (by decide) hz (by omega), if_neg c16, stC (c := 44) (by decide) (by decide) (by decide) (by decide) (by decide) hz (by omega), if_pos c21, stD (by decide) (by decide) hz (by omega), if_neg c22, stD (by decide) (by decide) hz (by omega), if_neg c23, stC (c := 59) (by decide) (by decide) (by decide) (by decide) (by decide) hz (by omega), if_pos c24, stE (by decide)]
              · exact L37_ok (by rw [ra_112, f_X5_readsPlayer, rn_2, if_neg c15, if_neg c16, lt3_def, if_neg ne10, lt1_def, if_pos c21, rn_1, if_neg c22, lt3_def, if_neg ne10, rn_1, if_neg c23, lt3_def, if_neg ne10, hp0, hp1, hp2]) c24
              · have e0 : (upd (upd (upd T J (10 * (f_X5_next lz (q + 1) ls - 48) + (f_X5_next lz (q + 1 + 1) ls - 48))) (J + 1) (f_X5_next lz (q + 1 + 1 + 1 + 1) ls - 48)) (J + 2) (f_X5_next lz (q + 1 + 1 + 1 + 1 + 1) ls - 48)) J = (10 * (f_X5_next lz (q + 1) ls - 48) + (f_X5_next lz (q + 1 + 1) ls - 48)) := by rw [upd_ne _ _ (show J ≠ _ by omega), upd_ne _ _ (show J ≠ _ by omega), upd_self]
                have e1 : (upd (upd (upd T J (10 * (f_X5_next lz (q + 1) ls - 48) + (f_X5_next lz (q + 1 + 1) ls - 48))) (J + 1) (f_X5_next lz (q + 1 + 1 + 1 + 1) ls - 48)) (J + 2) (f_X5_next lz (q + 1 + 1 + 1 + 1 + 1) ls - 48)) (J + 1) = (f_X5_next lz (q + 1 + 1 + 1 + 1) ls - 48) := by rw [upd_ne _ _ (show J + 1 ≠ _ by omega), upd_self]
                have e2 : (upd (upd (upd T J (10 * (f_X5_next lz (q + 1) ls - 48) + (f_X5_next lz (q + 1 + 1) ls - 48))) (J + 1) (f_X5_next lz (q + 1 + 1 + 1 + 1) ls - 48)) (J + 2) (f_X5_next lz (q + 1 + 1 + 1 + 1 + 1) ls - 48)) (J + 2) = (f_X5_next lz (q + 1 + 1 + 1 + 1 + 1) ls - 48) := by rw [upd_self]
                rw [e0, e1, e2]
                exact SR_p2 hz hq hb c16 i1 i2 i3 i4 i5 i6 i7 (by omega) (num2 d1 d2) d4 d5
            · skip
              refine ⟨0, q + 1 + 1 + 1 + 1 + 1 + 1, upd (upd (upd T J (10 * (f_X5_next lz (q + 1) ls - 48) + (f_X5_next lz (q + 1 + 1) ls - 48))) (J + 1) (f_X5_next lz (q + 1 + 1 + 1 + 1) ls - 48)) (J + 2) (f_X5_next lz (q + 1 + 1 + 1 + 1 + 1) ls - 48), ?_, ?_, Or.inl rfl, ⟨by omega, by omega⟩, fun j hj => by rw [upd_ne _ _ (show j ≠ _ by omega), upd_ne _ _ (show j ≠ _ by omega), upd_ne _ _ (show j ≠ _ by omega)], fun h => absurd h (by decide)⟩
              · rw [fo_def, stD (by decide) (by decide) hz (by omega), if_neg c15, stQ (by decide) (by decide) hz (by omega), if_neg c16, stC (c := 44) (by decide) (by decide) (by decide) (by decide) (by decide) hz (by omega), if_pos c21, stD (by decide) (by decide) hz (by omega), if_neg c22, stD (by decide) (by decide) hz (by omega), if_neg c23, stC (c := 59) (by decide) (by decide) (by decide) (by decide) (by decide) hz (by omega), if_neg c24]
              · exact L37_se (by rw [ra_112, f_X5_readsPlayer, rn_2, if_neg c15, if_neg c16, lt3_def, if_neg ne10, lt1_def, if_pos c21, rn_1, if_neg c22, lt3_def, if_neg ne10, rn_1, if_neg c23, lt3_def, if_neg ne10, hp0, hp1, hp2]) c24
      · skip
        refine ⟨0, q + 1 + 1 + 1, upd T J (10 * (f_X5_next lz (q + 1) ls - 48) + (f_X5_next lz (q + 1 + 1) ls - 48)), ?_, ?_, Or.inl rfl, ⟨by omega, by omega⟩, fun j hj => by rw [upd_ne _ _ (show j ≠ _ by omega)], fun h => absurd h (by decide)⟩
        · rw [fo_def, stD (by decide) (by decide) hz (by omega), if_neg c15, stQ (by decide) (by decide) hz (by omega), if_neg c16, stC (c := 44) (by decide) (by decide) (by decide) (by decide) (by decide) hz (by omega), if_neg c21]
        · exact L37_no (by rw [ra_112, f_X5_readsPlayer, rn_2, if_neg c15, if_neg c16, lt3_def, if_neg ne10, lt1_def, if_neg c21, hp0])
end ST

