set_option maxRecDepth 100000 in
theorem nsL_in : ∀ w ∈ nsL, w ∈ lw_tbl := mem_pl [106, 113, 118, 120, 122, 132, 134, 136, 138, 140, 142, 144, 146, 148, 150, 152, 178, 184, 186, 196, 243, 255, 336, 340, 356, 367, 375, 387, 391, 403, 409, 414, 418, 422, 427, 443, 456, 460, 468, 472, 480, 481, 485, 502, 507, 511, 518, 526, 531, 542, 555, 565, 630] (by decide +kernel)
theorem st_NS {b : Nat} {s : State} (hts : ∀ w ∈ lw_tbl, w.before #[Value.ref b] s = true) : NS s := fun w hw => va_Nw.of (List.all_eq_true.mp ns_on w hw) (hts w (nsL_in w hw))
theorem st_AO {b : Nat} {s : State} (hts : ∀ w ∈ lw_tbl, w.before #[Value.ref b] s = true) : va_AO RX3 s := va_AO.of (A := #[Value.ref b]) (hts (Cond.arrayOver (.object "KeptUpByFeet$Touch")) (List.mem_of_getElem? (i := 111) (by decide +kernel)))
set_option maxRecDepth 100000 in
theorem st_K {b : Nat} {s : State} (ht : ∀ w ∈ wsL_law, w.before #[Value.ref b] s = true) (hO : va_AO RX3 s) : ∃ (dC : Nat → ClassId) (dI : Nat → Nat → Nat) (cI cT : ClassId), va_K (dC, dI) vwCl (tysK cI cT) s := by
  obtain ⟨c0, i0, k0⟩ := u_known (T := TX0) (N := 11) ht inlX0 (ht _ wm_13)
  obtain ⟨c1, i1, k1⟩ := u_known (T := TX1) (N := 3) ht inlX1 (ht _ wm_20)
  obtain ⟨c2, i2, k2⟩ := u_known (T := TX2) (N := 2) ht inlX2 (ht _ wm_28)
  obtain ⟨c3, i3, k3⟩ := u_known (T := TX3) (N := 3) ht inlX3 (ht _ wm_46)
  obtain ⟨c4, i4, k4⟩ := u_known (T := TX4) (N := 9) ht inlX4 (ht _ wm_1)
  obtain ⟨c5, i5, k5⟩ := u_known (T := TX5) (N := 32) ht inlX5 (ht _ wm_4)
  obtain ⟨cA, kA, comp, hfind, hk, hkind⟩ := Cond.arrayClass_spec (ht _ wm_23)
  obtain ⟨cp, cB, kB, f1, f2, f3, f4, f5⟩ := Cond.arrayOver_spec (va_AO.use (A := #[Value.ref b]) hO)
  refine ⟨fun k => [c0, c1, c2, c3, c4, c5].getD k c0, fun k => [i0, i1, i2, i3, i4, i5].getD k i0, cA, cB, fun k q hq => ?_, fun k q hq => ?_⟩
  · match k, hq with
    | 0, hq => cases hq; exact k0
    | 1, hq => cases hq; exact k1
    | 2, hq => cases hq; exact k2
    | 3, hq => cases hq; exact k3
    | 4, hq => cases hq; exact k4
    | 5, hq => cases hq; exact k5
    | k + 6, hq => cases hq
  · match k, hq with
    | 0, hq => cases hq; exact ⟨fun n z => ⟨fun k h => (by cases h), kA, hk, comp, hkind⟩, hfind⟩
    | 1, hq => cases hq; exact ⟨fun N z => ⟨(fun k h => by cases h), kB, f3, cp, f4⟩, kB, cp, f3, f4, f1, f5⟩
    | k + 2, hq => cases hq
abbrev sTm (i : Nat) : Term := Term.string "KeptUpByFeet$Letters" (49 + 2 * i)
set_option maxRecDepth 100000 in
set_option maxHeartbeats 4000000 in
theorem st_GX {b : Nat} {s : State} {A : Nat → Prop} (hts : ∀ w ∈ lw_tbl, w.before #[Value.ref b] s = true) (hg : (Jvm.Cond.and given_1 narrow_1).before #[Value.ref b] s = true) (hA : ∀ a : Nat, a < s.heap.size → ¬ A a) : ∃ ad ae : Nat → Nat, GX ad ae A s := by
  have hs := flat_of_before _ hg
  obtain ⟨ad, ae, hV, hE⟩ := vk_Sof (args := #[Value.ref b]) (s := s) (N := 6) (tm := sTm) (len := sLen) (byt := sByt) (A := A) (by decide) (fun i hi => by rcases (show i = 0 ∨ i = 1 ∨ i = 2 ∨ i = 3 ∨ i = 4 ∨ i = 5 by omega) with rfl | rfl | rfl | rfl | rfl | rfl <;> exact hs _ (by decide +kernel)) (fun i hi => by rcases (show i = 0 ∨ i = 1 ∨ i = 2 ∨ i = 3 ∨ i = 4 ∨ i = 5 by omega) with rfl | rfl | rfl | rfl | rfl | rfl <;> exact hs _ (by decide +kernel)) (fun i hi => by rcases (show i = 0 ∨ i = 1 ∨ i = 2 ∨ i = 3 ∨ i = 4 ∨ i = 5 by omega) with rfl | rfl | rfl | rfl | rfl | rfl <;> exact hs _ (by decide +kernel)) (fun i hi => by rcases (show i = 0 ∨ i = 1 ∨ i = 2 ∨ i = 3 ∨ i = 4 ∨ i = 5 by omega) with rfl | rfl | rfl | rfl | rfl | rfl <;> exact hs _ (by decide +kernel)) (fun i hi => by rcases (show i = 0 ∨ i = 1 ∨ i = 2 ∨ i = 3 ∨ i = 4 ∨ i = 5 by omega) with rfl | rfl | rfl | rfl | rfl | rfl <;> (intro j hj; have hj := (show j < _ from hj); first | (have hj6 : j < 6 := Nat.lt_of_lt_of_le hj (by decide); rcases (show j = 0 ∨ j = 1 ∨ j = 2 ∨ j = 3 ∨ j = 4 ∨ j = 5 by omega) with rfl | rfl | rfl | rfl | rfl | rfl <;> first | (exact absurd hj (by decide)) | exact hs _ (by decide +kernel)))) (fun i j hi hj hij => by rcases (show i = 0 ∨ i = 1 ∨ i = 2 ∨ i = 3 ∨ i = 4 ∨ i = 5 by omega) with rfl | rfl | rfl | rfl | rfl | rfl <;> rcases (show j = 0 ∨ j = 1 ∨ j = 2 ∨ j = 3 ∨ j = 4 ∨ j = 5 by omega) with rfl | rfl | rfl | rfl | rfl | rfl <;> first | exact absurd rfl hij | exact Or.inl (hs _ (by decide +kernel)) | exact Or.inr (hs _ (by decide +kernel))) hA
  refine ⟨ad, ae, hV, fun i hi => ?_, ?_, ?_, st_AO hts⟩
  · refine vk_R.of (A := #[Value.ref b]) ?_ (hE i hi)
    rcases (show i = 0 ∨ i = 1 ∨ i = 2 ∨ i = 3 ∨ i = 4 ∨ i = 5 by omega) with rfl | rfl | rfl | rfl | rfl | rfl
    · exact hts _ (List.mem_of_getElem? (i := 266) (by decide +kernel))
    · exact hts _ (List.mem_of_getElem? (i := 267) (by decide +kernel))
    · exact hts _ (List.mem_of_getElem? (i := 268) (by decide +kernel))
    · exact hts _ (List.mem_of_getElem? (i := 269) (by decide +kernel))
    · exact hts _ (List.mem_of_getElem? (i := 270) (by decide +kernel))
    · exact hts _ (List.mem_of_getElem? (i := 271) (by decide +kernel))
  · refine va_Zof (args := #[Value.ref b]) (hts _ (List.mem_of_getElem? (i := 289) (by decide +kernel))) (hts _ (List.mem_of_getElem? (i := 91) (by decide +kernel))) ?_ hA
    exact va_eqi (hs (Cond.eq (.static "java/lang/String" "COMPACT_STRINGS" "Z") (.int 1)) (by decide +kernel))
  · exact va_Zqof (args := #[Value.ref b]) (hts _ (List.mem_of_getElem? (i := 305) (by decide +kernel))) (hts _ (List.mem_of_getElem? (i := 93) (by decide +kernel))) (hs _ (by decide +kernel)) hA
