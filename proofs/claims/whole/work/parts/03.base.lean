def nsL : List Cond := [.methodLinkNest RX4 9 yX0_init RX4, .methodLinkNest RX0 49 yX3_init RX4, .fieldLinkNest RX4 89 "KeptUpByFeet$Touch" "kind" "I" RX4, .fieldLinkNest RX4 94 "KeptUpByFeet$Touch" "figure" "I" RX4, .fieldLinkNest RX4 97 "KeptUpByFeet$Touch" "height" "I" RX4, .fieldLinkNest RX4 112 "KeptUpByFeet$Lane" "yards" "I" RX4, .fieldLinkNest RX4 103 "KeptUpByFeet$Lane" "wind" "I" RX4, .fieldLinkNest RX4 190 "KeptUpByFeet$Lane" "playerCount" "I" RX4, .fieldLinkNest RX4 209 "KeptUpByFeet$Lane" "touchCount" "I" RX4, .fieldLinkNest RX4 115 "KeptUpByFeet$Lane" "ball" "I" RX4, .fieldLinkNest RX4 136 "KeptUpByFeet$Lane" "times" "I" RX4, .fieldLinkNest RX4 70 "KeptUpByFeet$Lane" "yard" "[I" RX4, .fieldLinkNest RX4 73 "KeptUpByFeet$Lane" "pace" "[I" RX4, .fieldLinkNest RX4 76 "KeptUpByFeet$Lane" "skill" "[I" RX4, .fieldLinkNest RX4 79 "KeptUpByFeet$Lane" "tired" "[I" RX4, .fieldLinkNest RX4 85 "KeptUpByFeet$Lane" "touches" "[LKeptUpByFeet$Touch;" RX4, .methodLinkNest RX4 28 yX1_init RX4, .fieldLinkNest RX4 55 "KeptUpByFeet$Letters" "size" "I" RX4, .fieldLinkNest RX4 223 "KeptUpByFeet$Letters" "at" "I" RX4, .methodLinkNest RX4 46 yX2_init RX4, .methodLinkNest RX4 58 yX1_add RX4, .methodLinkNest RX4 220 yX1_misfit RX4, .methodLinkNest RX4 171 yX0_copyFrom RX4, .methodLinkNest RX4 226 yX1_readInto RX4, .methodLinkNest RX1 75 yX0_becomeLong RX4, .methodLinkNest RX1 84 yX0_becomeWindy RX4, .methodLinkNest RX1 97 yX0_addPlayer RX4, .methodLinkNest RX1 101 yX0_addTouch RX4, .methodLinkNest RX1 94 yX0_startWith RX4, .methodLinkNest RX4 230 yX1_take RX4, .methodLinkNest RX4 66 yX0_hasPlayer RX4, .methodLinkNest RX4 82 yX0_hasTouch RX4, .methodLinkNest RX4 100 yX3_air RX4, .methodLinkNest RX4 106 yX3_drift RX4, .methodLinkNest RX4 109 yX3_tires RX4, .methodLinkNest RX4 118 yX0_handTo RX4, .methodLinkNest RX4 125 yX0_errorOf RX4, .methodLinkNest RX0 73 yX3_errorBy RX4, .methodLinkNest RX4 129 yX0_isUp RX4, .methodLinkNest RX4 133 yX0_play RX4, .methodLinkNest RX0 81 yX3_drift RX4, .methodLinkNest RX0 85 yX3_air RX4, .methodLinkNest RX0 99 yX3_tires RX4, .methodLinkNest RX4 143 yX0_waysHad RX4, .methodLinkNest RX4 146 yX0_ways RX4, .methodLinkNest RX4 149 yX2_become RX4, .methodLinkNest RX4 153 yX2_part RX4, .methodLinkNest RX4 156 yX0_isInPlay RX4, .methodLinkNest RX4 159 yX0_bestMove RX4, .methodLinkNest RX4 164 yX0_bestOf RX4, .methodLinkNest RX4 237 yX0_isHad RX4, .methodLinkNest RX4 181 yX3_errorBy RX4, .methodLinkNest RX4 215 yX0_allTired RX4]
/-- names of a value: what stands behind it goes on with the name -/
def lt1 {α β : Type} (x : α) (k : α → β) : β := k x
theorem lt1_def {α β : Type} (x : α) (k : α → β) : lt1 x k = k x := rfl
abbrev tysK (cI cT : ClassId) : List (ClassId × FieldType) := [(cI, .int), (cT, .object "KeptUpByFeet$Touch")]
theorem ns_on : nsL.all (fun w => w.onTables) = true := by decide +kernel
def ns_nest (w : Cond) : Bool := match w with
  | .fieldLinkNest _ _ _ _ _ _ => true
  | .methodLinkNest _ _ _ _ => true
  | _ => false
theorem ns_all : nsL.all ns_nest = true := by decide +kernel
def NS (U : State) : Prop := ∀ w ∈ nsL, va_Nw w U
theorem NS.same {u U : State} (h : u.vm = U.vm) (hN : NS u) : NS U := fun w hw => va_Nw.same (List.all_eq_true.mp ns_on w hw) h (hN w hw)
theorem ns_warm1 {w : Cond} {s U : State} (hk : ns_nest w = true) (hW : s.WarmedH U.vm) (h : va_Nw w s) : va_Nw w U := by
  unfold ns_nest at hk
  split at hk
  · exact va_Nw.warmF hW h
  · exact va_Nw.warmM hW h
  · cases hk
theorem NS.warm {s U : State} (hW : s.WarmedH U.vm) (hN : NS s) : NS U := fun w hw => ns_warm1 (List.all_eq_true.mp ns_all w hw) hW (hN w hw)
def cP (D : va_G) (cI cT : ClassId) (w0 : va_W) (sz : Nat) (U : State) : Prop := U.heap.size = sz ∧ va_P D vwCl w0 U.heap ∧ va_K D vwCl (tysK cI cT) U ∧ va_D (fun _ => True) w0 ∧ NS U
def cB (D : va_G) (A : Nat → Prop) (w1 : va_W) (t : State) : Prop := va_P D vwCl w1 t.heap ∧ va_D A w1
theorem cP_blind {D : va_G} {cI cT : ClassId} {w0 : va_W} {sz : Nat} {av : List Value} : FrameBlind (va_Pc av (cP D cI cT w0 sz)) := by
  intro a U g mk q
  obtain ⟨q0, q1, qP, qK, qD, qN⟩ := q
  exact ⟨q0, q1, qP, va_K.moved (u := U) (U := U.calling g mk a) (Vm.Alike.refl U.vm) qK, qD, NS.same (u := U) (U := U.calling g mk a) rfl qN⟩
theorem preV {s : State} {H : Heap} {D : va_G} {cI cT : ClassId} {w0 : va_W} {A : Nat → Prop} {C : String} {b : Addr} {As : List Value} (hK : va_K D vwCl (tysK cI cT) s) (hN : NS s) (hP : va_P D vwCl w0 H) (hD : va_D A w0) (hr : ∃ cellB : Cell, H[b]? = some cellB ∧ cellB.vm.isStatics = false ∧ s.vm.findClass C = some cellB.cls) : PreV s H C b (va_Pc (.ref b :: As) (cP D cI cT w0 H.size)) As :=
  ⟨cP_blind, hr, fun U hU hW => ⟨rfl, by rw [hU], by rw [hU]; exact hP, va_K.moved hW.alike hK, hD.weaken (fun _ _ _ _ => trivial), NS.warm hW hN⟩⟩
theorem preS {s : State} {H : Heap} {D : va_G} {cI cT : ClassId} {w0 : va_W} {A : Nat → Prop} {As : List Value} (hK : va_K D vwCl (tysK cI cT) s) (hN : NS s) (hP : va_P D vwCl w0 H) (hD : va_D A w0) : PreS s H (va_Pc As (cP D cI cT w0 H.size)) As :=
  ⟨cP_blind, fun U hU hW => ⟨rfl, by rw [hU], by rw [hU]; exact hP, va_K.moved hW.alike hK, hD.weaken (fun _ _ _ _ => trivial), NS.warm hW hN⟩⟩
def CtI (l : Launch) (D : va_G) (cI cT : ClassId) (y : MethodName) (wd : List Cond) (rm : Room) (av : List Value) (w0 : va_W) {S : Type} (post : Int32 → S → Prop) (w1 : S → va_W) (mc ms : Nat) : Prop :=
  ∀ sz, Met l y wd rm (va_Pc av (cP D cI cT w0 sz)) (va_Qi post (fun u t => cB D (va_A w0 sz) (w1 u) t) (va_A w0 sz)) mc ms (va_A w0 sz)
def CtL (l : Launch) (D : va_G) (cI cT : ClassId) (y : MethodName) (wd : List Cond) (rm : Room) (av : List Value) (w0 : va_W) {S : Type} (post : Int64 → S → Prop) (w1 : S → va_W) (mc ms : Nat) : Prop :=
  ∀ sz, Met l y wd rm (va_Pc av (cP D cI cT w0 sz)) (va_Ql post (fun u t => cB D (va_A w0 sz) (w1 u) t) (va_A w0 sz)) mc ms (va_A w0 sz)
def CtV (l : Launch) (D : va_G) (cI cT : ClassId) (y : MethodName) (wd : List Cond) (rm : Room) (av : List Value) (w0 : va_W) {S : Type} (post : S → Prop) (w1 : S → va_W) (mc ms : Nat) : Prop :=
  ∀ sz, Met l y wd rm (va_Pc av (cP D cI cT w0 sz)) (va_Qv post (fun u t => cB D (va_A w0 sz) (w1 u) t) (va_A w0 sz)) mc ms (va_A w0 sz)
section KB
variable {p : Program} {l : Launch} {e : Env} {R : Room} {s : State} {m : MethodId} {args : Array Value} {below : List Frame} {meth : Method} {c : Code} {H : Heap} {locs : List Loc} {cells slots : Nat} {Q : State → Prop}
variable {D : va_G} {cI cT : ClassId} {y : MethodName} {wd ws' : List Cond} {rm : Room} {av : List Value} {w0 : va_W} {mc ms : Nat} {cc : ByteArray} {maxL : Nat} {A : Nat → Prop} {pc : Nat} {ls : Array Slot}
/-- the head of a method, in the words of its body -/
theorem mt_head {ret : Option FieldType} {Qc : (Nat → Prop) → Array Value → State → Outcome → State → Prop} (hy : plainName y.cls = true) (hw : wd = Cond.code y cc maxL ret :: ws') (hlen : (lg_sl av).length ≤ maxL)
    (body : ∀ (p : Program) (e : Env) (s : State) (m : MethodId) (below : List Frame) (meth : Method) (c : Code) (A : Nat → Prop) (ls : Array Slot), p.tables.exec = Jvm.exec → c.code = cc → meth.sig.returnType = ret → meth.locks = false → c.maxLocals = maxL → (∀ w ∈ wd, w.before av.toArray s = true) → s.vm.findClass y.cls = some m.cls → meth.name = y.name → (∀ q, s.heap.size ≤ q → A q) → va_K D vwCl (tysK cI cT) s → NS s → va_P D vwCl w0 s.heap → va_D A w0 → va_S A s.heap s.heap [] → lv_has ls maxL (lv_args 0 av) →
      W p l e rm s m av.toArray below meth c s.heap [] 0 0 (MQ below (Qc A) av.toArray s mc ms A) (F0 m 0 ls [])) (sz : Nat) :
    Met l y wd rm (va_Pc av (cP D cI cT w0 sz)) (Qc (va_A w0 sz)) mc ms (va_A w0 sz) := by
  refine Met.ofW (cc := cc) (maxL := maxL) (ret := ret) hy hw ?_
  intro p e s m args below meth c s₁ B hml hv
  obtain ⟨rfl, hsz, hP, hK, hD0, hN⟩ := hv
  have hl := lv_entry av (n := maxL) hlen
  rw [lg_entry_eq]
  subst hsz
  exact body p e s m below meth c _ _ B.exec B.bytes B.returns B.notSynchronized hml (atoms_spec (ws := wd) B.pre) (findClass_of_methodNamed B.named) (name_of_methodNamed B.named B.method).1 (fun q h => Or.inr h) hK hN hP hD0.self va_S.rf hl
def hR_i {S : Type} (p : Program) (l : Launch) (e : Env) (R : Room) (s : State) (m : MethodId) (args : Array Value) (below : List Frame) (meth : Method) (c : Code) (D : va_G) (A : Nat → Prop) (cc : ByteArray) (ty : FieldType) (post : Int32 → S → Prop) (w1 : S → va_W) (mc ms : Nat) (Q : State → Prop) : Prop :=
  ∀ (v : Int32) (u : S) (H : Heap) (locs : List Loc) (ls : Array Slot) (pc : Nat), post v u → narrow ty (.int v) = .int v → va_P D vwCl (w1 u) H → va_D A (w1 u) → va_S A s.heap H locs → decode cc pc = .ok (.ireturn, 1) → W p l e R s m args below meth c H locs mc ms Q (F0 m pc ls [.int v])
def hR_l {S : Type} (p : Program) (l : Launch) (e : Env) (R : Room) (s : State) (m : MethodId) (args : Array Value) (below : List Frame) (meth : Method) (c : Code) (D : va_G) (A : Nat → Prop) (cc : ByteArray) (post : Int64 → S → Prop) (w1 : S → va_W) (mc ms : Nat) (Q : State → Prop) : Prop :=
  ∀ (v : Int64) (u : S) (H : Heap) (locs : List Loc) (ls : Array Slot) (pc : Nat), post v u → va_P D vwCl (w1 u) H → va_D A (w1 u) → va_S A s.heap H locs → decode cc pc = .ok (.lreturn, 1) → W p l e R s m args below meth c H locs mc ms Q (F0 m pc ls [.long v])
def hR_v {S : Type} (p : Program) (l : Launch) (e : Env) (R : Room) (s : State) (m : MethodId) (args : Array Value) (below : List Frame) (meth : Method) (c : Code) (D : va_G) (A : Nat → Prop) (cc : ByteArray) (post : S → Prop) (w1 : S → va_W) (mc ms : Nat) (Q : State → Prop) : Prop :=
  ∀ (u : S) (H : Heap) (locs : List Loc) (ls : Array Slot) (pc : Nat), post u → va_P D vwCl (w1 u) H → va_D A (w1 u) → va_S A s.heap H locs → decode cc pc = .ok (.return_, 1) → W p l e R s m args below meth c H locs mc ms Q (F0 m pc ls [])
theorem ct_i {ty : FieldType} {S : Type} {post : Int32 → S → Prop} {w1 : S → va_W} (hy : plainName y.cls = true) (hw : wd = Cond.code y cc maxL (some ty) :: ws') (hlen : (lg_sl av).length ≤ maxL)
    (body : ∀ (p : Program) (e : Env) (s : State) (m : MethodId) (args : Array Value) (below : List Frame) (meth : Method) (c : Code) (A : Nat → Prop) (ls : Array Slot) (Q : State → Prop), p.tables.exec = Jvm.exec → c.code = cc → c.maxLocals = maxL → (∀ w ∈ wd, w.before args s = true) → s.vm.findClass y.cls = some m.cls → meth.name = y.name → (∀ q, s.heap.size ≤ q → A q) → va_K D vwCl (tysK cI cT) s → NS s → va_P D vwCl w0 s.heap → va_D A w0 → va_S A s.heap s.heap [] → lv_has ls maxL (lv_args 0 av) → hR_i p l e rm s m args below meth c D A cc ty post w1 mc ms Q → W p l e rm s m args below meth c s.heap [] 0 0 Q (F0 m 0 ls [])) : CtI l D cI cT y wd rm av w0 post w1 mc ms :=
  mt_head (Qc := fun A => va_Qi post (fun u t => cB D A (w1 u) t) A) hy hw hlen (fun p e s m below meth c A ls hx hb hr hlocks hml hts hown hmn hA hK hN hP hD hS hl => body p e s m _ below meth c A ls _ hx hb hml hts hown hmn hA hK hN hP hD hS hl (fun v u H locs ls pc hp hn hP hD hS hd => W.zret (v := v) hx hb hr hn (fun t ht hW => ⟨⟨v, u, rfl, hp, by rw [ht]; exact hP, hD⟩, hS.F ht⟩) hS.2.2 hd hlocks))
theorem ct_l {S : Type} {post : Int64 → S → Prop} {w1 : S → va_W} (hy : plainName y.cls = true) (hw : wd = Cond.code y cc maxL (some .long) :: ws') (hlen : (lg_sl av).length ≤ maxL)
    (body : ∀ (p : Program) (e : Env) (s : State) (m : MethodId) (args : Array Value) (below : List Frame) (meth : Method) (c : Code) (A : Nat → Prop) (ls : Array Slot) (Q : State → Prop), p.tables.exec = Jvm.exec → c.code = cc → c.maxLocals = maxL → (∀ w ∈ wd, w.before args s = true) → s.vm.findClass y.cls = some m.cls → meth.name = y.name → (∀ q, s.heap.size ≤ q → A q) → va_K D vwCl (tysK cI cT) s → NS s → va_P D vwCl w0 s.heap → va_D A w0 → va_S A s.heap s.heap [] → lv_has ls maxL (lv_args 0 av) → hR_l p l e rm s m args below meth c D A cc post w1 mc ms Q → W p l e rm s m args below meth c s.heap [] 0 0 Q (F0 m 0 ls [])) : CtL l D cI cT y wd rm av w0 post w1 mc ms :=
  mt_head (Qc := fun A => va_Ql post (fun u t => cB D A (w1 u) t) A) hy hw hlen (fun p e s m below meth c A ls hx hb hr hlocks hml hts hown hmn hA hK hN hP hD hS hl => body p e s m _ below meth c A ls _ hx hb hml hts hown hmn hA hK hN hP hD hS hl (fun v u H locs ls pc hp hP hD hS hd => W.lret (v := v) hx hb hr (fun t ht hW => ⟨⟨v, u, rfl, hp, by rw [ht]; exact hP, hD⟩, hS.F ht⟩) hS.2.2 hd hlocks))
theorem ct_v {S : Type} {post : S → Prop} {w1 : S → va_W} (hy : plainName y.cls = true) (hw : wd = Cond.code y cc maxL none :: ws') (hlen : (lg_sl av).length ≤ maxL)
    (body : ∀ (p : Program) (e : Env) (s : State) (m : MethodId) (args : Array Value) (below : List Frame) (meth : Method) (c : Code) (A : Nat → Prop) (ls : Array Slot) (Q : State → Prop), p.tables.exec = Jvm.exec → c.code = cc → c.maxLocals = maxL → (∀ w ∈ wd, w.before args s = true) → s.vm.findClass y.cls = some m.cls → meth.name = y.name → (∀ q, s.heap.size ≤ q → A q) → va_K D vwCl (tysK cI cT) s → NS s → va_P D vwCl w0 s.heap → va_D A w0 → va_S A s.heap s.heap [] → lv_has ls maxL (lv_args 0 av) → hR_v p l e rm s m args below meth c D A cc post w1 mc ms Q → W p l e rm s m args below meth c s.heap [] 0 0 Q (F0 m 0 ls [])) : CtV l D cI cT y wd rm av w0 post w1 mc ms :=
  mt_head (Qc := fun A => va_Qv post (fun u t => cB D A (w1 u) t) A) hy hw hlen (fun p e s m below meth c A ls hx hb hr hlocks hml hts hown hmn hA hK hN hP hD hS hl => body p e s m _ below meth c A ls _ hx hb hml hts hown hmn hA hK hN hP hD hS hl (fun u H locs ls pc hp hP hD hS hd => W.vret hx hb hr (fun t ht hW => ⟨⟨u, rfl, hp, by rw [ht]; exact hP, hD⟩, hS.F ht⟩) hS.2.2 hd hlocks))
end KB
section KC
variable {p : Program} {l : Launch} {e : Env} {R : Room} {s : State} {m : MethodId} {args : Array Value} {below : List Frame} {meth : Method} {c : Code} {H : Heap} {locs : List Loc} {cells slots : Nat} {Q : State → Prop}
variable {D : va_G} {mc ms : Nat} {A0 : Nat → Prop} {H0 : Heap} {pc : Nat} {ls : Array Slot} {rest st0 : List Value} {a : Array Value} {X cx wr pl : va_W}
theorem kc_i {S : Type} {post : Int32 → S → Prop} {rx pl1 : S → va_W} (X2 : S → va_W) (hr : va_Run p l e R s m args below meth c H locs cells slots mc ms (F0 m pc ls st0) rest (va_Qi post (fun u t => cB D (va_A (cx ++ pl) H.size) (rx u ++ pl1 u) t) (va_A (cx ++ pl) H.size) a) (va_A (cx ++ pl) H.size))
    (hP : va_P D vwCl (X ++ pl) H) (hD : va_D A0 (X ++ pl)) (hS : va_S A0 H0 H locs) (hA : ∀ q, H0.size ≤ q → A0 q) (isC isR isB : List Nat) (hC : isC.map (fun i => X[i]?) = cx.map some) (hR : isR.map (fun i => X[i]?) = wr.map some) (hn : va_nd isR = true) (hdis : ∀ i ∈ isR, i ∉ isC) (hnB : va_nd isB = true) (hB : ∀ u, isB.map (fun i => (wr ++ rx u)[i]?) = (X2 u).map some)
    (kk : ∀ (r : Int32) (u : S) (H1 : Heap) (locs1 : List Loc), post r u → va_P D vwCl (X2 u ++ pl1 u) H1 → va_D A0 (X2 u ++ pl1 u) → va_S A0 H0 H1 locs1 → W p l e R s m args below meth c H1 locs1 (cells + mc) (slots + ms) Q (F0 m (pc + 3) ls (.int r :: rest))) : W p l e R s m args below meth c H locs cells slots Q (F0 m pc ls st0) := by
  have hFc := va_freeP hD hS hA isC hC
  refine va_calli hr hS (fun q _ h => hFc q h) hFc (fun r u t H1 locs1 ht hvm hw hBB hz1 hk1 hS1 => ?_)
  obtain ⟨hP1, hD1⟩ := hBB
  rw [ht] at hP1
  obtain ⟨hP2, hD2⟩ := va_joinP hP hD isC isR hC hR hn hdis hk1 hFc hP1 hD1
  exact kk r u H1 locs1 hw (hP2.part isB (hB u)) (hD2.part isB hnB (hB u)) hS1
theorem kc_l {S : Type} {post : Int64 → S → Prop} {rx pl1 : S → va_W} (X2 : S → va_W) (hr : va_Run p l e R s m args below meth c H locs cells slots mc ms (F0 m pc ls st0) rest (va_Ql post (fun u t => cB D (va_A (cx ++ pl) H.size) (rx u ++ pl1 u) t) (va_A (cx ++ pl) H.size) a) (va_A (cx ++ pl) H.size))
    (hP : va_P D vwCl (X ++ pl) H) (hD : va_D A0 (X ++ pl)) (hS : va_S A0 H0 H locs) (hA : ∀ q, H0.size ≤ q → A0 q) (isC isR isB : List Nat) (hC : isC.map (fun i => X[i]?) = cx.map some) (hR : isR.map (fun i => X[i]?) = wr.map some) (hn : va_nd isR = true) (hdis : ∀ i ∈ isR, i ∉ isC) (hnB : va_nd isB = true) (hB : ∀ u, isB.map (fun i => (wr ++ rx u)[i]?) = (X2 u).map some)
    (kk : ∀ (r : Int64) (u : S) (H1 : Heap) (locs1 : List Loc), post r u → va_P D vwCl (X2 u ++ pl1 u) H1 → va_D A0 (X2 u ++ pl1 u) → va_S A0 H0 H1 locs1 → W p l e R s m args below meth c H1 locs1 (cells + mc) (slots + ms) Q (F0 m (pc + 3) ls (.long r :: rest))) : W p l e R s m args below meth c H locs cells slots Q (F0 m pc ls st0) := by
  have hFc := va_freeP hD hS hA isC hC
  refine va_calll hr hS (fun q _ h => hFc q h) hFc (fun r u t H1 locs1 ht hvm hw hBB hz1 hk1 hS1 => ?_)
  obtain ⟨hP1, hD1⟩ := hBB
  rw [ht] at hP1
  obtain ⟨hP2, hD2⟩ := va_joinP hP hD isC isR hC hR hn hdis hk1 hFc hP1 hD1
  exact kk r u H1 locs1 hw (hP2.part isB (hB u)) (hD2.part isB hnB (hB u)) hS1
theorem kc_v {S : Type} {post : S → Prop} {rx pl1 : S → va_W} (X2 : S → va_W) (hr : va_Run p l e R s m args below meth c H locs cells slots mc ms (F0 m pc ls st0) rest (va_Qv post (fun u t => cB D (va_A (cx ++ pl) H.size) (rx u ++ pl1 u) t) (va_A (cx ++ pl) H.size) a) (va_A (cx ++ pl) H.size))
    (hP : va_P D vwCl (X ++ pl) H) (hD : va_D A0 (X ++ pl)) (hS : va_S A0 H0 H locs) (hA : ∀ q, H0.size ≤ q → A0 q) (isC isR isB : List Nat) (hC : isC.map (fun i => X[i]?) = cx.map some) (hR : isR.map (fun i => X[i]?) = wr.map some) (hn : va_nd isR = true) (hdis : ∀ i ∈ isR, i ∉ isC) (hnB : va_nd isB = true) (hB : ∀ u, isB.map (fun i => (wr ++ rx u)[i]?) = (X2 u).map some)
    (kk : ∀ (u : S) (H1 : Heap) (locs1 : List Loc), post u → va_P D vwCl (X2 u ++ pl1 u) H1 → va_D A0 (X2 u ++ pl1 u) → va_S A0 H0 H1 locs1 → W p l e R s m args below meth c H1 locs1 (cells + mc) (slots + ms) Q (F0 m (pc + 3) ls rest)) : W p l e R s m args below meth c H locs cells slots Q (F0 m pc ls st0) := by
  have hFc := va_freeP hD hS hA isC hC
  refine va_callv hr hS (fun q _ h => hFc q h) hFc (fun u t H1 locs1 ht hvm hw hBB hz1 hk1 hS1 => ?_)
  obtain ⟨hP1, hD1⟩ := hBB
  rw [ht] at hP1
  obtain ⟨hP2, hD2⟩ := va_joinP hP hD isC isR hC hR hn hdis hk1 hFc hP1 hD1
  exact kk u H1 locs1 hw (hP2.part isB (hB u)) (hD2.part isB hnB (hB u)) hS1
theorem kc0_i {S : Type} {post : Int32 → S → Prop} {rx pl1 : S → va_W} (X2 : S → va_W) (hr : va_Run p l e R s m args below meth c H locs cells slots 0 0 (F0 m pc ls st0) rest (va_Qi post (fun u t => cB D (va_A (cx ++ pl) H.size) (rx u ++ pl1 u) t) (va_A (cx ++ pl) H.size) a) (va_A (cx ++ pl) H.size))
    (hP : va_P D vwCl (X ++ pl) H) (hD : va_D A0 (X ++ pl)) (hS : va_S A0 H0 H locs) (hA : ∀ q, H0.size ≤ q → A0 q) (isC isR isB : List Nat) (hC : isC.map (fun i => X[i]?) = cx.map some) (hR : isR.map (fun i => X[i]?) = wr.map some) (hn : va_nd isR = true) (hdis : ∀ i ∈ isR, i ∉ isC) (hnB : va_nd isB = true) (hB : ∀ u, isB.map (fun i => (wr ++ rx u)[i]?) = (X2 u).map some)
    (kk : ∀ (r : Int32) (u : S) (H1 : Heap) (locs1 : List Loc), post r u → va_P D vwCl (X2 u ++ pl1 u) H1 → va_D A0 (X2 u ++ pl1 u) → va_S A0 H0 H1 locs1 → W p l e R s m args below meth c H1 locs1 cells slots Q (F0 m (pc + 3) ls (.int r :: rest))) : W p l e R s m args below meth c H locs cells slots Q (F0 m pc ls st0) :=
  kc_i X2 hr hP hD hS hA isC isR isB hC hR hn hdis hnB hB kk
theorem kc0_l {S : Type} {post : Int64 → S → Prop} {rx pl1 : S → va_W} (X2 : S → va_W) (hr : va_Run p l e R s m args below meth c H locs cells slots 0 0 (F0 m pc ls st0) rest (va_Ql post (fun u t => cB D (va_A (cx ++ pl) H.size) (rx u ++ pl1 u) t) (va_A (cx ++ pl) H.size) a) (va_A (cx ++ pl) H.size))
    (hP : va_P D vwCl (X ++ pl) H) (hD : va_D A0 (X ++ pl)) (hS : va_S A0 H0 H locs) (hA : ∀ q, H0.size ≤ q → A0 q) (isC isR isB : List Nat) (hC : isC.map (fun i => X[i]?) = cx.map some) (hR : isR.map (fun i => X[i]?) = wr.map some) (hn : va_nd isR = true) (hdis : ∀ i ∈ isR, i ∉ isC) (hnB : va_nd isB = true) (hB : ∀ u, isB.map (fun i => (wr ++ rx u)[i]?) = (X2 u).map some)
    (kk : ∀ (r : Int64) (u : S) (H1 : Heap) (locs1 : List Loc), post r u → va_P D vwCl (X2 u ++ pl1 u) H1 → va_D A0 (X2 u ++ pl1 u) → va_S A0 H0 H1 locs1 → W p l e R s m args below meth c H1 locs1 cells slots Q (F0 m (pc + 3) ls (.long r :: rest))) : W p l e R s m args below meth c H locs cells slots Q (F0 m pc ls st0) :=
  kc_l X2 hr hP hD hS hA isC isR isB hC hR hn hdis hnB hB kk
theorem kc0_v {S : Type} {post : S → Prop} {rx pl1 : S → va_W} (X2 : S → va_W) (hr : va_Run p l e R s m args below meth c H locs cells slots 0 0 (F0 m pc ls st0) rest (va_Qv post (fun u t => cB D (va_A (cx ++ pl) H.size) (rx u ++ pl1 u) t) (va_A (cx ++ pl) H.size) a) (va_A (cx ++ pl) H.size))
    (hP : va_P D vwCl (X ++ pl) H) (hD : va_D A0 (X ++ pl)) (hS : va_S A0 H0 H locs) (hA : ∀ q, H0.size ≤ q → A0 q) (isC isR isB : List Nat) (hC : isC.map (fun i => X[i]?) = cx.map some) (hR : isR.map (fun i => X[i]?) = wr.map some) (hn : va_nd isR = true) (hdis : ∀ i ∈ isR, i ∉ isC) (hnB : va_nd isB = true) (hB : ∀ u, isB.map (fun i => (wr ++ rx u)[i]?) = (X2 u).map some)
    (kk : ∀ (u : S) (H1 : Heap) (locs1 : List Loc), post u → va_P D vwCl (X2 u ++ pl1 u) H1 → va_D A0 (X2 u ++ pl1 u) → va_S A0 H0 H1 locs1 → W p l e R s m args below meth c H1 locs1 cells slots Q (F0 m (pc + 3) ls rest)) : W p l e R s m args below meth c H locs cells slots Q (F0 m pc ls st0) :=
  kc_v X2 hr hP hD hS hA isC isR isB hC hR hn hdis hnB hB kk
end KC
/-- the touches, by their addresses -/
abbrev tg (tk tf th : Nat → Int32) : Nat → va_E := fun a => .inr (3, [.int (tk a), .int (tf a), .int (th a)])
abbrev tA (tr : Nat → Option Nat) (i : Nat) : Nat := (tr i).getD 0
theorem vp_of {x : Int32} {n : Nat} (h : 0 ≤ x.toInt ∧ x.toInt < (n : Int)) : vp_in x n := vp_in_iff.mpr h
theorem vp_to {x : Int32} {n : Nat} (h : vp_in x n) : 0 ≤ x.toInt ∧ x.toInt < (n : Int) := vp_in_iff.mp h
theorem inc_lt {i b : Int32} (h : i < b) : (i + 1).toInt = i.toInt + 1 := by
  have h1 := Int32.lt_iff_toInt_lt.mp h
  have h2 := b.toInt_lt
  have h3 := i.le_toInt
  rw [Int32.toInt_add]
  exact Int.bmod_eq_of_le (by simp; omega) (by simp; omega)
theorem vp_lt {x : Int32} {n : Nat} (h : vp_in x n) : x.toNatClampNeg < n := Nat.not_le.mp fun q => h (Or.inr q)
theorem nb {r : Int32} (h : r = 0 ∨ r = 1) : narrow .boolean (.int r) = .int r := by
  rcases h with rfl | rfl <;> rfl
theorem gW_all : wsL_law.all goodWord = true := by decide +kernel
theorem gW {y : MethodName} {c : ByteArray} {n : Nat} {r : Option FieldType} (h : Cond.code y c n r ∈ wsL_law) : GoodIn wsL_law (Cond.code y c n r :: wsL_law) := fun w hw => (List.mem_cons.mp hw).elim (fun e => e ▸ ⟨h, good_of_word (List.all_eq_true.mp gW_all _ h)⟩) (fun hw => ⟨hw, good_of_word (List.all_eq_true.mp gW_all _ hw)⟩)
theorem gV {own C : String} {idx : Nat} {y : MethodName} {c : ByteArray} {n : Nat} {r : Option FieldType} (h1 : Cond.methodLink own idx y ∈ wsL_law) (h2 : Cond.instanceMethod y ∈ wsL_law) (h3 : Cond.selects C y y ∈ wsL_law) (h4 : Cond.initialized C ∈ wsL_law) (h : Cond.code y c n r ∈ wsL_law) : GoodIn wsL_law (wsV own idx C y (Cond.code y c n r :: wsL_law)) := by
  refine goodIn_app (fun w hw => ?_) (gW h)
  have hm : w ∈ wsL_law := by
    simp only [List.mem_cons, List.not_mem_nil, or_false] at hw
    rcases hw with rfl | rfl | rfl | rfl <;> assumption
  exact ⟨hm, good_of_word (List.all_eq_true.mp gW_all _ hm)⟩
theorem gS {own : String} {idx : Nat} {y : MethodName} {c : ByteArray} {n : Nat} {r : Option FieldType} (h1 : Cond.methodLink own idx y ∈ wsL_law) (h2 : Cond.static y ∈ wsL_law) (h4 : Cond.initialized own ∈ wsL_law) (h : Cond.code y c n r ∈ wsL_law) : GoodIn wsL_law (wsS own idx y (Cond.code y c n r :: wsL_law)) := by
  refine goodIn_app (fun w hw => ?_) (gW h)
  have hm : w ∈ wsL_law := by
    simp only [List.mem_cons, List.not_mem_nil, or_false] at hw
    rcases hw with rfl | rfl | rfl <;> assumption
  exact ⟨hm, good_of_word (List.all_eq_true.mp gW_all _ hm)⟩
section KT
variable {p : Program} {l : Launch} {e : Env} {R : Room} {s : State} {m : MethodId} {args : Array Value} {below : List Frame} {meth : Method} {c : Code} {H : Heap} {locs : List Loc} {cells slots : Nat} {Q : State → Prop} {D : va_G} {cl : List vw_C} {tys : List (ClassId × FieldType)} {ws : va_W} {cc : ByteArray} {pc : Nat} {ls : Array Slot} {rest : List Value} {a : Nat}
theorem va_aldT (hexec : p.tables.exec = Jvm.exec) (hb : c.code = cc) (hK : va_K D cl tys s) (hP : va_P D cl ws H) (q0 t0 : Nat) {cA : ClassId} {C : String} {n : Nat} {f : Nat → Option Nat} (ha : ws[q0]? = some (a, .inl (cA, n, .inr (.inr (.inr (.inr f)))))) (ht : tys[t0]? = some (cA, .object C)) {i : Int32} (hin : vp_in i n) (hf : f i.toNatClampNeg = some (tA f i.toNatClampNeg)) (hdg : decode cc pc = .ok (.aaload, 1))
    (kk : W p l e R s m args below meth c H locs cells slots Q (F0 m (pc + 1) ls (.ref (tA f i.toNatClampNeg) :: rest))) : W p l e R s m args below meth c H locs cells slots Q (F0 m pc ls (.int i :: .ref a :: rest)) := by
  refine va_aldq hexec hb hK hP q0 t0 ha ht hin hdg ?_
  rw [hf]
  exact kk
end KT
theorem inc_nle {i b : Int32} (h : ¬ b ≤ i) : (i + 1).toInt = i.toInt + 1 := inc_lt (Int32.not_le.mp h)
theorem Met.imp {l : Launch} {y : MethodName} {ws : List Cond} {rm : Room} {Pc : Array Value → State → Prop} {Qc Qc' : Array Value → State → Outcome → State → Prop} {mc ms : Nat} {free : Addr → Prop} (h : Met l y ws rm Pc Qc mc ms free) (hq : ∀ a s o t, Pc a s → Qc a s o t → Qc' a s o t) : Met l y ws rm Pc Qc' mc ms free := by
  intro p e h1 h2 h3 s m args below hf ha hP hK
  obtain ⟨n, o, a1, a2, a3, a4, a5⟩ := h p e h1 h2 h3 s m args below hf ha hP hK
  exact ⟨n, o, a1, a2, a3, hq _ _ _ _ hP a4, a5⟩
section KM
variable {l : Launch} {D : va_G} {cI cT : ClassId} {y : MethodName} {wd : List Cond} {rm : Room} {av : List Value} {w0 : va_W} {S S' : Type} {w1 : S → va_W} {w1' : S' → va_W} {mc ms : Nat}
theorem CtV.mono {post : S → Prop} {post' : S' → Prop} (h : CtV l D cI cT y wd rm av w0 post w1 mc ms) (hm : ∀ u, post u → ∃ u', post' u' ∧ (∀ H, va_P D vwCl (w1 u) H → va_P D vwCl (w1' u') H) ∧ ∀ A, va_D A (w1 u) → va_D A (w1' u')) : CtV l D cI cT y wd rm av w0 post' w1' mc ms := by
  intro sz
  refine Met.imp (h sz) (fun a s o t _ q => ?_)
  obtain ⟨⟨u, e1, e2, e3, e4⟩, e5⟩ := q
  obtain ⟨u', g1, g2, g3⟩ := hm u e2
  exact ⟨⟨u', e1, g1, g2 _ e3, g3 _ e4⟩, e5⟩
theorem CtI.mono {post : Int32 → S → Prop} {post' : Int32 → S' → Prop} (h : CtI l D cI cT y wd rm av w0 post w1 mc ms) (hm : ∀ r u, post r u → ∃ u', post' r u' ∧ (∀ H, va_P D vwCl (w1 u) H → va_P D vwCl (w1' u') H) ∧ ∀ A, va_D A (w1 u) → va_D A (w1' u')) : CtI l D cI cT y wd rm av w0 post' w1' mc ms := by
  intro sz
  refine Met.imp (h sz) (fun a s o t _ q => ?_)
  obtain ⟨⟨r, u, e1, e2, e3, e4⟩, e5⟩ := q
  obtain ⟨u', g1, g2, g3⟩ := hm r u e2
  exact ⟨⟨r, u', e1, g1, g2 _ e3, g3 _ e4⟩, e5⟩
theorem CtL.mono {post : Int64 → S → Prop} {post' : Int64 → S' → Prop} (h : CtL l D cI cT y wd rm av w0 post w1 mc ms) (hm : ∀ r u, post r u → ∃ u', post' r u' ∧ (∀ H, va_P D vwCl (w1 u) H → va_P D vwCl (w1' u') H) ∧ ∀ A, va_D A (w1 u) → va_D A (w1' u')) : CtL l D cI cT y wd rm av w0 post' w1' mc ms := by
  intro sz
  refine Met.imp (h sz) (fun a s o t _ q => ?_)
  obtain ⟨⟨r, u, e1, e2, e3, e4⟩, e5⟩ := q
  obtain ⟨u', g1, g2, g3⟩ := hm r u e2
  exact ⟨⟨r, u', e1, g1, g2 _ e3, g3 _ e4⟩, e5⟩
end KM
theorem vp_cell_congr {cA : ClassId} {n : Nat} {f g : Nat → Int32} (h : ∀ j, j < n → f j = g j) : vp_cell cA (n, .inl f) = vp_cell cA (n, .inl g) := by
  have e : (fun j : Fin n => Value.int (f j.val)) = (fun j : Fin n => Value.int (g j.val)) := funext (fun j => by rw [h j.val j.isLt])
  show arrV cA n (fun j => .int (f j)) = arrV cA n (fun j => .int (g j))
  unfold arrV
  rw [e]
theorem vp_cell_congrq {cA : ClassId} {n : Nat} {f g : Nat → Option Nat} (h : ∀ j, j < n → f j = g j) : vp_cell cA (n, .inr (.inr (.inr (.inr f)))) = vp_cell cA (n, .inr (.inr (.inr (.inr g)))) := by
  have e : (fun j : Fin n => va_rf (f j.val)) = (fun j : Fin n => va_rf (g j.val)) := funext (fun j => by rw [h j.val j.isLt])
  show arrV cA n (fun j => va_rf (f j)) = arrV cA n (fun j => va_rf (g j))
  unfold arrV
  rw [e]
/-- an array's contents in other words -/
theorem va_P.cell {D : va_G} {cl : List vw_C} {ws : va_W} {H : Heap} (h : va_P D cl ws H) (k : Nat) {a n : Nat} {cA : ClassId} {f g : Nat → Int32} (he : ws[k]? = some (a, .inl (cA, n, .inl f))) (hfg : ∀ j, j < n → f j = g j) : va_P D cl (ws.set k (a, .inl (cA, n, .inl g))) H := by
  intro i q hq
  by_cases hik : k = i
  · subst hik
    have hlt : k < ws.length := (List.getElem?_eq_some_iff.mp he).1
    rw [List.getElem?_set_self hlt] at hq
    cases hq
    have h0 := h k _ he
    show H[a]? = some (vp_cell cA (n, .inl g))
    rw [← vp_cell_congr hfg]
    exact h0
  · rw [List.getElem?_set_ne hik] at hq
    exact h i q hq
theorem va_P.cellq {D : va_G} {cl : List vw_C} {ws : va_W} {H : Heap} (h : va_P D cl ws H) (k : Nat) {a n : Nat} {cA : ClassId} {f g : Nat → Option Nat} (he : ws[k]? = some (a, .inl (cA, n, .inr (.inr (.inr (.inr f)))))) (hfg : ∀ j, j < n → f j = g j) : va_P D cl (ws.set k (a, .inl (cA, n, .inr (.inr (.inr (.inr g)))))) H := by
  intro i q hq
  by_cases hik : k = i
  · subst hik
    have hlt : k < ws.length := (List.getElem?_eq_some_iff.mp he).1
    rw [List.getElem?_set_self hlt] at hq
    cases hq
    have h0 := h k _ he
    show H[a]? = some (vp_cell cA (n, .inr (.inr (.inr (.inr g)))))
    rw [← vp_cell_congrq hfg]
    exact h0
  · rw [List.getElem?_set_ne hik] at hq
    exact h i q hq
section KF
variable {p : Program} {l : Launch} {e : Env} {R : Room} {s : State} {m : MethodId} {args : Array Value} {below : List Frame} {meth : Method} {c : Code} {H : Heap} {locs : List Loc} {cells slots : Nat} {Q : State → Prop}
variable {D : va_G} {A0 : Nat → Prop} {H0 : Heap} {pc : Nat} {ls : Array Slot} {rest st0 : List Value} {a : Array Value} {cx pl : va_W}
theorem kcF_free (hD : va_D A0 (cx ++ pl)) (hS : va_S A0 H0 H locs) (hA : ∀ q, H0.size ≤ q → A0 q) : ∀ q, va_A (cx ++ pl) H.size q → A0 q := by
  intro q h
  rcases h with ⟨k, e, h⟩ | h
  · exact hD.2 _ (q, e) h
  · exact hA q (Nat.le_trans hS.1 h)
theorem kcF_i {S : Type} {post : Int32 → S → Prop} {rx pl1 : S → va_W} (hr : va_Run p l e R s m args below meth c H locs cells slots 0 0 (F0 m pc ls st0) rest (va_Qi post (fun u t => cB D (va_A (cx ++ pl) H.size) (rx u ++ pl1 u) t) (va_A (cx ++ pl) H.size) a) (va_A (cx ++ pl) H.size))
    (hP : va_P D vwCl (cx ++ pl) H) (hD : va_D A0 (cx ++ pl)) (hS : va_S A0 H0 H locs) (hA : ∀ q, H0.size ≤ q → A0 q)
    (kk : ∀ (r : Int32) (u : S) (H1 : Heap) (locs1 : List Loc), post r u → va_P D vwCl (rx u ++ pl1 u) H1 → va_D A0 (rx u ++ pl1 u) → va_S A0 H0 H1 locs1 → W p l e R s m args below meth c H1 locs1 cells slots Q (F0 m (pc + 3) ls (.int r :: rest))) : W p l e R s m args below meth c H locs cells slots Q (F0 m pc ls st0) := by
  have hFc := kcF_free hD hS hA
  refine va_calli hr hS (fun q _ h => hFc q h) hFc (fun r u t H1 locs1 ht hvm hw hBB hz1 hk1 hS1 => ?_)
  obtain ⟨hP1, hD1⟩ := hBB
  rw [ht] at hP1
  exact kk r u H1 locs1 hw hP1 (hD1.weaken (fun k q _ h => hFc q.1 h)) hS1
theorem kcF_l {S : Type} {post : Int64 → S → Prop} {rx pl1 : S → va_W} (hr : va_Run p l e R s m args below meth c H locs cells slots 0 0 (F0 m pc ls st0) rest (va_Ql post (fun u t => cB D (va_A (cx ++ pl) H.size) (rx u ++ pl1 u) t) (va_A (cx ++ pl) H.size) a) (va_A (cx ++ pl) H.size))
    (hP : va_P D vwCl (cx ++ pl) H) (hD : va_D A0 (cx ++ pl)) (hS : va_S A0 H0 H locs) (hA : ∀ q, H0.size ≤ q → A0 q)
    (kk : ∀ (r : Int64) (u : S) (H1 : Heap) (locs1 : List Loc), post r u → va_P D vwCl (rx u ++ pl1 u) H1 → va_D A0 (rx u ++ pl1 u) → va_S A0 H0 H1 locs1 → W p l e R s m args below meth c H1 locs1 cells slots Q (F0 m (pc + 3) ls (.long r :: rest))) : W p l e R s m args below meth c H locs cells slots Q (F0 m pc ls st0) := by
  have hFc := kcF_free hD hS hA
  refine va_calll hr hS (fun q _ h => hFc q h) hFc (fun r u t H1 locs1 ht hvm hw hBB hz1 hk1 hS1 => ?_)
  obtain ⟨hP1, hD1⟩ := hBB
  rw [ht] at hP1
  exact kk r u H1 locs1 hw hP1 (hD1.weaken (fun k q _ h => hFc q.1 h)) hS1
theorem kcF_v {S : Type} {post : S → Prop} {rx pl1 : S → va_W} (hr : va_Run p l e R s m args below meth c H locs cells slots 0 0 (F0 m pc ls st0) rest (va_Qv post (fun u t => cB D (va_A (cx ++ pl) H.size) (rx u ++ pl1 u) t) (va_A (cx ++ pl) H.size) a) (va_A (cx ++ pl) H.size))
    (hP : va_P D vwCl (cx ++ pl) H) (hD : va_D A0 (cx ++ pl)) (hS : va_S A0 H0 H locs) (hA : ∀ q, H0.size ≤ q → A0 q)
    (kk : ∀ (u : S) (H1 : Heap) (locs1 : List Loc), post u → va_P D vwCl (rx u ++ pl1 u) H1 → va_D A0 (rx u ++ pl1 u) → va_S A0 H0 H1 locs1 → W p l e R s m args below meth c H1 locs1 cells slots Q (F0 m (pc + 3) ls rest)) : W p l e R s m args below meth c H locs cells slots Q (F0 m pc ls st0) := by
  have hFc := kcF_free hD hS hA
  refine va_callv hr hS (fun q _ h => hFc q h) hFc (fun u t H1 locs1 ht hvm hw hBB hz1 hk1 hS1 => ?_)
  obtain ⟨hP1, hD1⟩ := hBB
  rw [ht] at hP1
  exact kk u H1 locs1 hw hP1 (hD1.weaken (fun k q _ h => hFc q.1 h)) hS1
end KF
