def sTx : List String := ["9?;", "+9;", "9?,99;", "999;", "9;", ""]
def sLen : List Nat := [3, 3, 6, 4, 2, 0]
def sByt : List (List Int32) := [[57, 63, 59], [43, 57, 59], [57, 63, 44, 57, 57, 59], [57, 57, 57, 59], [57, 59], []]
/-- what lies outside our cells: the six texts, two statics; and that rows of touches can be made -/
def GX (ad av : Nat → Nat) (A : Nat → Prop) (U : State) : Prop := vk_S 6 sLen sByt ad av A U U.heap ∧ (∀ i, i < 6 → vk_R RX1 (49 + 2 * i) (sTx.getD i "") (ad i) U) ∧ va_Z "java/lang/String" "COMPACT_STRINGS" "Z" (.int 1) A U U.heap ∧ va_Zq "jdk/internal/util/Preconditions" "SIOOBE_FORMATTER" "Ljava/util/function/BiFunction;" A U U.heap ∧ va_AO RX3 U
theorem GX.move {ad av : Nat → Nat} {A B : Nat → Prop} {s U : State} {locs : List Loc} (hS : va_S A s.heap U.heap locs) (hW : s.WarmedH U.vm) (hAB : ∀ q, B q → A q) (h : GX ad av A s) : GX ad av B U :=
  ⟨((vk_S.moved hW.alike h.1).kept hS.2.1).narrow hAB, fun i hi => (h.2.1 i hi).warm hW, ((va_Z.moved hW.alike h.2.2.1).kept hS.2.1).narrow hAB, ((va_Zq.moved hW.alike h.2.2.2.1).kept hS.2.1).narrow hAB, va_AO.moved hW.alike h.2.2.2.2⟩
def cPe (D : va_G) (cI cT : ClassId) (w0 : va_W) (ad av : Nat → Nat) (sz : Nat) (U : State) : Prop := cP D cI cT w0 sz U ∧ GX ad av (va_A w0 sz) U
theorem cPe_blind {D : va_G} {cI cT : ClassId} {w0 : va_W} {ad ae : Nat → Nat} {sz : Nat} {av : List Value} : FrameBlind (va_Pc av (cPe D cI cT w0 ad ae sz)) := by
  intro a U g mk q
  obtain ⟨q0, ⟨q1, qP, qK, qD, qN⟩, qX⟩ := q
  refine ⟨q0, ⟨q1, qP, va_K.moved (u := U) (U := U.calling g mk a) (Vm.Alike.refl U.vm) qK, qD, NS.same (u := U) (U := U.calling g mk a) rfl qN⟩, ?_⟩
  obtain ⟨x1, x2, x3, x4, x5⟩ := qX
  exact ⟨vk_S.moved (u := U) (U := U.calling g mk a) (Vm.Alike.refl U.vm) x1, fun i hi => vk_R.same (u := U) (U := U.calling g mk a) rfl (x2 i hi), va_Z.moved (u := U) (U := U.calling g mk a) (Vm.Alike.refl U.vm) x3, va_Zq.moved (u := U) (U := U.calling g mk a) (Vm.Alike.refl U.vm) x4, va_AO.moved (u := U) (U := U.calling g mk a) (Vm.Alike.refl U.vm) x5⟩
theorem w_free {A0 : Nat → Prop} {w : va_W} {H0 H : Heap} {locs : List Loc} (hD : va_D A0 w) (hS : va_S A0 H0 H locs) (hA : ∀ q, H0.size ≤ q → A0 q) : ∀ q, va_A w H.size q → A0 q := by
  intro q h
  rcases h with ⟨k, e, h⟩ | h
  · exact hD.2 _ (q, e) h
  · exact hA q (Nat.le_trans hS.1 h)
theorem preVe {s : State} {H : Heap} {D : va_G} {cI cT : ClassId} {w0 : va_W} {A : Nat → Prop} {C : String} {b : Addr} {As : List Value} {ad av : Nat → Nat} {locs : List Loc} (hX : GX ad av A s) (hS : va_S A s.heap H locs) (hA : ∀ q, s.heap.size ≤ q → A q) (hK : va_K D vwCl (tysK cI cT) s) (hN : NS s) (hP : va_P D vwCl w0 H) (hD : va_D A w0) (hr : ∃ cellB : Cell, H[b]? = some cellB ∧ cellB.vm.isStatics = false ∧ s.vm.findClass C = some cellB.cls) : PreV s H C b (va_Pc (.ref b :: As) (cPe D cI cT w0 ad av H.size)) As :=
  ⟨cPe_blind, hr, fun U hU hW => ⟨rfl, ⟨by rw [hU], by rw [hU]; exact hP, va_K.moved hW.alike hK, hD.weaken (fun _ _ _ _ => trivial), NS.warm hW hN⟩, GX.move (locs := locs) (by rw [hU]; exact hS) hW (w_free hD hS hA) hX⟩⟩
theorem preSe {s : State} {H : Heap} {D : va_G} {cI cT : ClassId} {w0 : va_W} {A : Nat → Prop} {As : List Value} {ad av : Nat → Nat} {locs : List Loc} (hX : GX ad av A s) (hS : va_S A s.heap H locs) (hA : ∀ q, s.heap.size ≤ q → A q) (hK : va_K D vwCl (tysK cI cT) s) (hN : NS s) (hP : va_P D vwCl w0 H) (hD : va_D A w0) : PreS s H (va_Pc As (cPe D cI cT w0 ad av H.size)) As :=
  ⟨cPe_blind, fun U hU hW => ⟨rfl, ⟨by rw [hU], by rw [hU]; exact hP, va_K.moved hW.alike hK, hD.weaken (fun _ _ _ _ => trivial), NS.warm hW hN⟩, GX.move (locs := locs) (by rw [hU]; exact hS) hW (w_free hD hS hA) hX⟩⟩
def CeI (ad ae : Nat → Nat) (l : Launch) (D : va_G) (cI cT : ClassId) (y : MethodName) (wd : List Cond) (rm : Room) (av : List Value) (w0 : va_W) {S : Type} (post : Int32 → S → Prop) (w1 : S → va_W) (mc ms : Nat) : Prop :=
  ∀ sz, Met l y wd rm (va_Pc av (cPe D cI cT w0 ad ae sz)) (va_Qi post (fun u t => cB D (va_A w0 sz) (w1 u) t) (va_A w0 sz)) mc ms (va_A w0 sz)
def CeV (ad ae : Nat → Nat) (l : Launch) (D : va_G) (cI cT : ClassId) (y : MethodName) (wd : List Cond) (rm : Room) (av : List Value) (w0 : va_W) {S : Type} (post : S → Prop) (w1 : S → va_W) (mc ms : Nat) : Prop :=
  ∀ sz, Met l y wd rm (va_Pc av (cPe D cI cT w0 ad ae sz)) (va_Qv post (fun u t => cB D (va_A w0 sz) (w1 u) t) (va_A w0 sz)) mc ms (va_A w0 sz)
def CeR (ad ae : Nat → Nat) (l : Launch) (D : va_G) (cI cT : ClassId) (y : MethodName) (wd : List Cond) (rm : Room) (av : List Value) (w0 : va_W) {S : Type} (post : Nat → S → Prop) (w1 : S → va_W) (mc ms : Nat) : Prop :=
  ∀ sz, Met l y wd rm (va_Pc av (cPe D cI cT w0 ad ae sz)) (va_Qr (fun _ : S => True) (fun u a t => post a u ∧ cB D (va_A w0 sz) (w1 u) t) (va_A w0 sz)) mc ms (va_A w0 sz)
section EB
variable {p : Program} {l : Launch} {e : Env} {R : Room} {s : State} {m : MethodId} {args : Array Value} {below : List Frame} {meth : Method} {c : Code} {H : Heap} {locs : List Loc} {cells slots : Nat} {Q : State → Prop}
variable {D : va_G} {cI cT : ClassId} {y : MethodName} {wd ws' : List Cond} {rm : Room} {av : List Value} {w0 : va_W} {mc ms : Nat} {cc : ByteArray} {maxL : Nat} {A : Nat → Prop} {pc : Nat} {ls : Array Slot} {ad ae : Nat → Nat}
theorem mt_headE {ret : Option FieldType} {Qc : (Nat → Prop) → Array Value → State → Outcome → State → Prop} (hy : plainName y.cls = true) (hw : wd = Cond.code y cc maxL ret :: ws') (hlen : (lg_sl av).length ≤ maxL)
    (body : ∀ (p : Program) (e : Env) (s : State) (m : MethodId) (below : List Frame) (meth : Method) (c : Code) (A : Nat → Prop) (ls : Array Slot), p.tables.exec = Jvm.exec → c.code = cc → meth.sig.returnType = ret → meth.locks = false → c.maxLocals = maxL → (∀ w ∈ wd, w.before av.toArray s = true) → s.vm.findClass y.cls = some m.cls → meth.name = y.name → (∀ q, s.heap.size ≤ q → A q) → va_K D vwCl (tysK cI cT) s → NS s → GX ad ae A s → va_P D vwCl w0 s.heap → va_D A w0 → va_S A s.heap s.heap [] → lv_has ls maxL (lv_args 0 av) →
      W p l e rm s m av.toArray below meth c s.heap [] 0 0 (MQ below (Qc A) av.toArray s mc ms A) (F0 m 0 ls [])) (sz : Nat) :
    Met l y wd rm (va_Pc av (cPe D cI cT w0 ad ae sz)) (Qc (va_A w0 sz)) mc ms (va_A w0 sz) := by
  refine Met.ofW (cc := cc) (maxL := maxL) (ret := ret) hy hw ?_
  intro p e s m args below meth c s₁ B hml hv
  obtain ⟨rfl, ⟨hsz, hP, hK, hD0, hN⟩, hX⟩ := hv
  have hl := lv_entry av (n := maxL) hlen
  rw [lg_entry_eq]
  subst hsz
  exact body p e s m below meth c _ _ B.exec B.bytes B.returns B.notSynchronized hml (atoms_spec (ws := wd) B.pre) (findClass_of_methodNamed B.named) (name_of_methodNamed B.named B.method).1 (fun q h => Or.inr h) hK hN hX hP hD0.self va_S.rf hl
theorem ct_ie {ty : FieldType} {S : Type} {post : Int32 → S → Prop} {w1 : S → va_W} (hy : plainName y.cls = true) (hw : wd = Cond.code y cc maxL (some ty) :: ws') (hlen : (lg_sl av).length ≤ maxL)
    (body : ∀ (p : Program) (e : Env) (s : State) (m : MethodId) (args : Array Value) (below : List Frame) (meth : Method) (c : Code) (A : Nat → Prop) (ls : Array Slot) (Q : State → Prop), p.tables.exec = Jvm.exec → c.code = cc → c.maxLocals = maxL → (∀ w ∈ wd, w.before args s = true) → s.vm.findClass y.cls = some m.cls → meth.name = y.name → (∀ q, s.heap.size ≤ q → A q) → va_K D vwCl (tysK cI cT) s → NS s → GX ad ae A s → va_P D vwCl w0 s.heap → va_D A w0 → va_S A s.heap s.heap [] → lv_has ls maxL (lv_args 0 av) → hR_i p l e rm s m args below meth c D A cc ty post w1 mc ms Q → W p l e rm s m args below meth c s.heap [] 0 0 Q (F0 m 0 ls [])) : CeI ad ae l D cI cT y wd rm av w0 post w1 mc ms :=
  mt_headE (Qc := fun A => va_Qi post (fun u t => cB D A (w1 u) t) A) hy hw hlen (fun p e s m below meth c A ls hx hb hr hlocks hml hts hown hmn hA hK hN hX hP hD hS hl => body p e s m _ below meth c A ls _ hx hb hml hts hown hmn hA hK hN hX hP hD hS hl (fun v u H locs ls pc hp hn hP hD hS hd => W.zret (v := v) hx hb hr hn (fun t ht hW => ⟨⟨v, u, rfl, hp, by rw [ht]; exact hP, hD⟩, hS.F ht⟩) hS.2.2 hd hlocks))
theorem ct_ve {S : Type} {post : S → Prop} {w1 : S → va_W} (hy : plainName y.cls = true) (hw : wd = Cond.code y cc maxL none :: ws') (hlen : (lg_sl av).length ≤ maxL)
    (body : ∀ (p : Program) (e : Env) (s : State) (m : MethodId) (args : Array Value) (below : List Frame) (meth : Method) (c : Code) (A : Nat → Prop) (ls : Array Slot) (Q : State → Prop), p.tables.exec = Jvm.exec → c.code = cc → c.maxLocals = maxL → (∀ w ∈ wd, w.before args s = true) → s.vm.findClass y.cls = some m.cls → meth.name = y.name → (∀ q, s.heap.size ≤ q → A q) → va_K D vwCl (tysK cI cT) s → NS s → GX ad ae A s → va_P D vwCl w0 s.heap → va_D A w0 → va_S A s.heap s.heap [] → lv_has ls maxL (lv_args 0 av) → hR_v p l e rm s m args below meth c D A cc post w1 mc ms Q → W p l e rm s m args below meth c s.heap [] 0 0 Q (F0 m 0 ls [])) : CeV ad ae l D cI cT y wd rm av w0 post w1 mc ms :=
  mt_headE (Qc := fun A => va_Qv post (fun u t => cB D A (w1 u) t) A) hy hw hlen (fun p e s m below meth c A ls hx hb hr hlocks hml hts hown hmn hA hK hN hX hP hD hS hl => body p e s m _ below meth c A ls _ hx hb hml hts hown hmn hA hK hN hX hP hD hS hl (fun u H locs ls pc hp hP hD hS hd => W.vret hx hb hr (fun t ht hW => ⟨⟨u, rfl, hp, by rw [ht]; exact hP, hD⟩, hS.F ht⟩) hS.2.2 hd hlocks))
theorem ct_re {C : String} {S : Type} {post : Nat → S → Prop} {w1 : S → va_W} (hy : plainName y.cls = true) (hw : wd = Cond.code y cc maxL (some (.object C)) :: ws') (hlen : (lg_sl av).length ≤ maxL)
    (body : ∀ (p : Program) (e : Env) (s : State) (m : MethodId) (args : Array Value) (below : List Frame) (meth : Method) (c : Code) (A : Nat → Prop) (ls : Array Slot) (Q : State → Prop), p.tables.exec = Jvm.exec → c.code = cc → c.maxLocals = maxL → (∀ w ∈ wd, w.before args s = true) → s.vm.findClass y.cls = some m.cls → meth.name = y.name → (∀ q, s.heap.size ≤ q → A q) → va_K D vwCl (tysK cI cT) s → NS s → GX ad ae A s → va_P D vwCl w0 s.heap → va_D A w0 → va_S A s.heap s.heap [] → lv_has ls maxL (lv_args 0 av) → (∀ (v : Nat) (u : S) (H : Heap) (locs : List Loc) (ls : Array Slot) (pc : Nat), post v u → va_P D vwCl (w1 u) H → va_D A (w1 u) → va_S A s.heap H locs → decode cc pc = .ok (.areturn, 1) → W p l e rm s m args below meth c H locs mc ms Q (F0 m pc ls [.ref v])) → W p l e rm s m args below meth c s.heap [] 0 0 Q (F0 m 0 ls [])) : CeR ad ae l D cI cT y wd rm av w0 post w1 mc ms :=
  mt_headE (Qc := fun A => va_Qr (fun _ : S => True) (fun u a t => post a u ∧ cB D A (w1 u) t) A) hy hw hlen (fun p e s m below meth c A ls hx hb hr hlocks hml hts hown hmn hA hK hN hX hP hD hS hl => body p e s m _ below meth c A ls _ hx hb hml hts hown hmn hA hK hN hX hP hD hS hl (fun v u H locs ls pc hp hP hD hS hd => W.aret (v := .ref v) hx hb hr (Or.inl ⟨C, rfl⟩) (Or.inr ⟨v, rfl⟩) (fun t ht hW => ⟨⟨u, v, rfl, trivial, hp, by rw [ht]; exact hP, hD⟩, hS.F ht⟩) hS.2.2 hd hlocks))
end EB
section ER
variable {p : Program} {l : Launch} {e : Env} {R : Room} {s : State} {m : MethodId} {args : Array Value} {below : List Frame} {meth : Method} {c : Code} {H : Heap} {locs : List Loc} {cells slots : Nat} {Q : State → Prop}
variable {D : va_G} {mc ms : Nat} {A0 : Nat → Prop} {H0 : Heap} {pc : Nat} {ls : Array Slot} {rest st0 : List Value} {a : Array Value} {X cx wr pl : va_W}
theorem kc0_r {S : Type} {post : Nat → S → Prop} {rx pl1 : S → va_W} (X2 : S → va_W) (hr : va_Run p l e R s m args below meth c H locs cells slots 0 0 (F0 m pc ls st0) rest (va_Qr (fun _ : S => True) (fun u a t => post a u ∧ cB D (va_A (cx ++ pl) H.size) (rx u ++ pl1 u) t) (va_A (cx ++ pl) H.size) a) (va_A (cx ++ pl) H.size))
    (hP : va_P D vwCl (X ++ pl) H) (hD : va_D A0 (X ++ pl)) (hS : va_S A0 H0 H locs) (hA : ∀ q, H0.size ≤ q → A0 q) (isC isR isB : List Nat) (hC : isC.map (fun i => X[i]?) = cx.map some) (hR : isR.map (fun i => X[i]?) = wr.map some) (hn : va_nd isR = true) (hdis : ∀ i ∈ isR, i ∉ isC) (hnB : va_nd isB = true) (hB : ∀ u, isB.map (fun i => (wr ++ rx u)[i]?) = (X2 u).map some)
    (kk : ∀ (r : Nat) (u : S) (H1 : Heap) (locs1 : List Loc), post r u → va_P D vwCl (X2 u ++ pl1 u) H1 → va_D A0 (X2 u ++ pl1 u) → va_S A0 H0 H1 locs1 → W p l e R s m args below meth c H1 locs1 cells slots Q (F0 m (pc + 3) ls (.ref r :: rest))) : W p l e R s m args below meth c H locs cells slots Q (F0 m pc ls st0) := by
  have hFc := va_freeP hD hS hA isC hC
  refine va_callr hr hS (fun q _ h => hFc q h) hFc (fun u r t H1 locs1 ht hvm _ hBB hz1 hk1 hS1 => ?_)
  obtain ⟨hw, hP1, hD1⟩ := hBB
  rw [ht] at hP1
  obtain ⟨hP2, hD2⟩ := va_joinP hP hD isC isR hC hR hn hdis hk1 hFc hP1 hD1
  exact kk r u H1 locs1 hw (hP2.part isB (hB u)) (hD2.part isB hnB (hB u)) hS1
end ER

