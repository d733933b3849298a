/-! methods that throw: what they need beside the world, their form, their rows. They throw before they write. -/
def xIAE : String := "java/lang/IllegalArgumentException"
def xISE : String := "java/lang/IllegalStateException"
def xIOO : String := "java/lang/IndexOutOfBoundsException"
def xNms : List String := ["java/lang/RuntimeException", "java/lang/Exception"]
def ngW : List Cond := [.declares ⟨"java/lang/RuntimeException", "<init>", "(Ljava/lang/String;)V"⟩, .declares ⟨"java/lang/Exception", "<init>", "(Ljava/lang/String;)V"⟩, .declares ⟨"java/lang/Throwable", "<init>", "(Ljava/lang/String;)V"⟩, .castable "java/lang/IllegalArgumentException" "java/lang/IllegalArgumentException", .castable "java/lang/IllegalStateException" "java/lang/IllegalStateException", .castable "java/lang/IndexOutOfBoundsException" "java/lang/IndexOutOfBoundsException"]
def strL : List (Nat × String) := [(57, "cores is out of range"), (70, "ticks is out of range"), (150, "there is no such CPU"), (154, "weight is out of range"), (156, "cookie is out of range"), (90, "there are already 16 tasks"), (145, "there is no such task"), (103, "the task is not runnable"), (109, "the task is not sleeping"), (158, "the task has exited"), (114, "the task is running"), (152, "there is no such core"), (139, "there is no such position")]
def XF (q : Nat → Nat) (U : State) : Prop := (vx_Zq Bundle.tN "UNASSIGNED_STACK" Bundle.steD (Aq q) U U.heap ∧ vx_Zq Bundle.tN "SUPPRESSED_SENTINEL" Bundle.listD (Aq q) U U.heap) ∧ (∀ w ∈ ngW, va_Nw w U) ∧ ∀ p ∈ strL, ∃ a : Nat, vk_R RX0 p.1 p.2 a U
theorem ngW_warm {s U : State} (hW : s.WarmedH U.vm) (h : ∀ w ∈ ngW, va_Nw w s) : ∀ w ∈ ngW, va_Nw w U := by
  intro w hw
  have h1 := h w hw
  simp only [ngW, List.mem_cons, List.not_mem_nil, or_false] at hw
  rcases hw with rfl | rfl | rfl | rfl | rfl | rfl
  · exact va_Nw.warmD hW h1
  · exact va_Nw.warmD hW h1
  · exact va_Nw.warmD hW h1
  · exact va_Nw.warmC hW h1
  · exact va_Nw.warmC hW h1
  · exact va_Nw.warmC hW h1
theorem ngW_same {s U : State} (hv : s.vm = U.vm) (h : ∀ w ∈ ngW, va_Nw w s) : ∀ w ∈ ngW, va_Nw w U := by
  intro w hw
  have h1 := h w hw
  simp only [ngW, List.mem_cons, List.not_mem_nil, or_false] at hw
  rcases hw with rfl | rfl | rfl | rfl | rfl | rfl <;> exact va_Nw.same rfl hv h1
theorem XF.warm {q : Nat → Nat} {s U : State} (hW : s.WarmedH U.vm) (hk : ∀ a : Nat, a < s.heap.size → ¬ Aq q a → U.heap[a]? = s.heap[a]?) (h : XF q s) : XF q U :=
  ⟨⟨(h.1.1.moved hW.alike).kept hk, (h.1.2.moved hW.alike).kept hk⟩, ngW_warm hW h.2.1, fun p hp => (h.2.2 p hp).elim (fun a ha => ⟨a, ha.warm hW⟩)⟩
theorem XF.calling {q : Nat → Nat} {U : State} {g : JFrame} {mk : MethodId} {a : Array Value} (h : XF q U) : XF q (U.calling g mk a) :=
  ⟨⟨h.1.1.moved (u := U) (U := U.calling g mk a) (Vm.Alike.refl U.vm), h.1.2.moved (u := U) (U := U.calling g mk a) (Vm.Alike.refl U.vm)⟩, ngW_same (s := U) (U := U.calling g mk a) rfl h.2.1, fun p hp => (h.2.2 p hp).elim (fun x hx => ⟨x, hx.same rfl⟩)⟩
/-- which exception a refusal is -/
def xn (X2 : String) (code : Int32) : String := if code = 1 then xIAE else X2
def noQ : Array Value → State → Outcome → State → Prop := fun _ _ _ _ => False
def thX (X2 : String) (code : Int32) : String → State → State → Prop := vx_X (fun _ : Unit => True) (fun E' _ _ => E' = xn X2 code) (fun _ => False)
def preX (E : Ev) (q : Nat → Nat) (σ : St) (As : List Value) : Array Value → State → Prop := va_Pc (.ref (q 0) :: As) (fun U => PP 0 E q σ U.heap ∧ KK E U ∧ XF q U)
def TX (l : Launch) (E : Ev) (q : Nat → Nat) (σ : St) (y : MethodName) (cc : ByteArray) (n : Nat) (r : Option FieldType) (rm : Room) (As : List Value) (X2 : String) (code : Int32) : Prop := vx_Met l y (ws_ y cc n r) rm (preX E q σ As) noQ (thX X2 code) 1 6 (fun _ => False)
def TN (l : Launch) (q : Nat → Nat) (y : MethodName) (cc : ByteArray) (n : Nat) (r : Option FieldType) (rm : Room) (As : List Value) (X2 : String) (code : Int32) : Prop := vx_Met l y (ws_ y cc n r) rm (va_Pc As (fun U => XF q U)) noQ (thX X2 code) 1 6 (fun _ => False)
/-- reads alone, and answers nothing -/
def RV (l : Launch) (k : Nat) (E : Ev) (q : Nat → Nat) (σ : St) (y : MethodName) (cc : ByteArray) (n : Nat) (r : Option FieldType) (rm : Room) (As : List Value) (ex : Prop) : Prop := Met l y (ws_ y cc n r) rm (preF k E q σ As) (va_Sv (fun _ => ex)) 0 0 (fun _ => False)
def NV (l : Launch) (y : MethodName) (cc : ByteArray) (n : Nat) (r : Option FieldType) (rm : Room) (As : List Value) : Prop := Met l y (ws_ y cc n r) rm (va_Pc As (fun _ => True)) (va_Sv (fun _ => True)) 0 0 (fun _ => False)
section TXO
variable {l : Launch} {y : MethodName} {cc : ByteArray} {n : Nat} {r : Option FieldType} {rm : Room}
theorem vx_ofB {Pc : State → Prop} {Qc : Array Value → State → Outcome → State → Prop} {XC : String → State → State → Prop} {mc ms : Nat} {free : Addr → Prop} {Vs : List Value} (hy : plainName y.cls = true) (hn : (lg_sl Vs).length ≤ n)
    (body : ∀ (p : Program) (e : Env) (s : State) (m : MethodId) (args : Array Value) (below : List Frame) (meth : Method) (c : Code) (ls : Array Slot) (Q : State → Prop), Bd p s m args meth c y.cls cc n r → (∀ x ∈ c.exceptionTable.toList, False) → Q = vx_MQ below Qc XC args s mc ms free → Pc s → lv_has ls n (lv_args 0 Vs) →
      W p l e rm s m args below meth c s.heap [] 0 0 Q (F0 m 0 ls [])) : vx_Met l y (ws_ y cc n r) rm (va_Pc Vs Pc) Qc XC mc ms free := by
  refine vx_ofW (cc := cc) (maxL := n) (ret := r) hy rfl ?_
  intro p e s m args below meth c s₁ B hml hta hv
  obtain ⟨rfl, hP⟩ := hv
  have hts := atoms_spec (ws := ws_ y cc n r) B.pre
  have hl := lv_entry Vs (n := n) hn
  rw [lg_entry_eq]
  exact body p e s m Vs.toArray below meth c _ _ ⟨B.exec, B.bytes, hml, B.returns, B.notSynchronized, findClass_of_methodNamed B.named, fun w h => hts w (List.mem_cons_of_mem _ h)⟩ hta rfl hP hl
end TXO
theorem at_IAE : ∀ w ∈ (vx_atS RX0 59 xIAE xNms).filter goodWord, w ∈ lw_all := by decide +kernel
theorem at_ISE : ∀ w ∈ (vx_atS RX0 92 xISE xNms).filter goodWord, w ∈ lw_all := by decide +kernel
theorem at_IOO : ∀ w ∈ (vx_atS RX0 141 xIOO xNms).filter goodWord, w ∈ lw_all := by decide +kernel
theorem ng_IAE : ∀ w ∈ (vx_atS RX0 59 xIAE xNms).filter (fun w => !goodWord w), w ∈ ngW := by decide +kernel
theorem ng_ISE : ∀ w ∈ (vx_atS RX0 92 xISE xNms).filter (fun w => !goodWord w), w ∈ ngW := by decide +kernel
theorem ng_IOO : ∀ w ∈ (vx_atS RX0 141 xIOO xNms).filter (fun w => !goodWord w), w ∈ ngW := by decide +kernel
theorem ot_IAE : ∀ w ∈ Cond.classLink RX0 55 xIAE :: Cond.initialized xIAE :: vx_atS RX0 59 xIAE xNms, vx_ot w = true := by decide +kernel
theorem ot_ISE : ∀ w ∈ Cond.classLink RX0 88 xISE :: Cond.initialized xISE :: vx_atS RX0 92 xISE xNms, vx_ot w = true := by decide +kernel
theorem ot_IOO : ∀ w ∈ Cond.classLink RX0 137 xIOO :: Cond.initialized xIOO :: vx_atS RX0 141 xIOO xNms, vx_ot w = true := by decide +kernel
theorem ngW_on : ∀ w ∈ ngW, w.onTables = true := by decide +kernel
section TXR
variable {p : Program} {l : Launch} {e : Env} {R : Room} {s : State} {m : MethodId} {args : Array Value} {below : List Frame} {meth : Method} {c : Code} {Q : State → Prop}
variable {cc bytes : ByteArray} {pc idx nL maxL : Nat} {ls : Array Slot} {rest st0 As : List Value} {E : Ev} {q : Nat → Nat} {σ : St} {y : MethodName} {ret : Option FieldType} {rm : Room} {own : String} {code code3 : Int32} {X2 X3 : String}
/-- new X(text), thrown -/
theorem tx_new {cls text : String} {ik is ic : Nat} (hQ : Q = vx_MQ below noQ (thX X2 code) args s 1 6 (fun _ => False)) (hx : p.tables.exec = Jvm.exec) (hb : c.code = cc) (hl : l.stackTraces = false) (hown : s.vm.findClass RX0 = some m.cls) (hts : ∀ w ∈ lw_all, w.before args s = true) (hX : XF q s) (hta : ∀ x ∈ c.exceptionTable.toList, False) (hlocks : meth.locks = false)
    (hcls : Bundle.fit cls = true) (hk : Cond.classLink RX0 ik cls ∈ lw_all) (hini : Cond.initialized cls ∈ lw_all) (hs : (is, text) ∈ strL) (hat : ∀ w ∈ (vx_atS RX0 ic cls xNms).filter goodWord, w ∈ lw_all) (hng : ∀ w ∈ (vx_atS RX0 ic cls xNms).filter (fun w => !goodWord w), w ∈ ngW) (hot : ∀ w ∈ Cond.classLink RX0 ik cls :: Cond.initialized cls :: vx_atS RX0 ic cls xNms, vx_ot w = true)
    (hsize : ls.size = c.maxLocals) (d0 : decode cc pc = .ok (.new ik, 3)) (d3 : decode cc (pc + 3) = .ok (.dup, 1)) (d4 : decode cc (pc + 4) = .ok (.ldc is, 2)) (d6 : decode cc (pc + 6) = .ok (.invokespecial ic, 3)) (d9 : decode cc (pc + 9) = .ok (.athrow, 1))
    (hf : 6 ≤ R.frames) (hlo : (rest.map fun v => v.category).sum + 82 ≤ R.locals) (hc : 1 ≤ R.cells ∧ 6 ≤ R.slots) (hcode : cls = xn X2 code) : W p l e R s m args below meth c s.heap [] 0 0 Q (F0 m pc ls rest) := by
  subst hQ
  obtain ⟨sa, hsa⟩ := hX.2.2 _ hs
  refine vx_throwS (own := RX0) (cls := cls) (text := text) (names := xNms) (ik := ik) (is := is) (ic := ic) (sa := sa) (A := Aq q) hx hb hl hown hcls (by decide) (hts _ hk) (hts _ hini) hsa (vx_hat (fun w hw => hts w (hat w hw)) hng (fun w hw => (hX.2.1 w hw).use (ngW_on w hw))) hot hX.1.1 hX.1.2 va_S.rf hsize d0 d3 d4 d6 d9 (fun x h => (hta x h).elim) hf hlo (by omega) (by omega) hlocks (fun t ha hz hq => ⟨(), trivial, hcode, hz, fun a h1 _ => hq a h1⟩) (fun _ h => nomatch h) (Nat.le_refl _) (Nat.le_refl _)
theorem preX_blind : FrameBlind (preX E q σ As) := fun _ _ _ _ h => ⟨h.1, h.2.1, KK.moved (Vm.Alike.refl _) h.2.2.1, h.2.2.2.calling⟩
theorem pre_X (hK : KK E s) (hP : PP 0 E q σ s.heap) (hX : XF q s) : PreV s s.heap (RK 0) (q 0) (preX E q σ As) As := ⟨preX_blind, hP.recv hK, fun U hU hW => ⟨rfl, by rw [hU]; exact hP, KK.moved hW.alike hK, hX.warm hW (fun a _ _ => by rw [hU])⟩⟩
/-- what is thrown by a callee goes on to the caller -/
theorem tx_on (hQ : Q = vx_MQ below noQ (thX X3 code3) args s 1 6 (fun _ => False)) (hta : ∀ x ∈ c.exceptionTable.toList, False) (hlocks : meth.locks = false) (hcode : xn X2 code = xn X3 code3) {a : Array Value} (hr : vx_Run p l e R s m args below meth c s.heap [] 0 0 1 6 (F0 m pc ls st0) rest (noQ a) (thX X2 code) (fun _ => False)) : W p l e R s m args below meth c s.heap [] 0 0 Q (F0 m pc ls st0) := by
  subst hQ
  intro T hT X
  rcases hr T hT X with ⟨v, st₀, t, T', L, h0, X', hL, e1, e2, hF, st⟩ | ⟨q9, st₀, t, T', L, E9, ce, h0, X', hL, e1, e2, ⟨u, -, hE, hF⟩, hce, hcv, hcl, st⟩
  · exact hF.elim
  · have X2 := Stand.forget X' (fun z h => (hL z h).elim)
    have hz := hF.1
    have hk := hF.2
    rw [h0] at hz hk
    have hE : E9 = xn X3 code3 := hE.trans hcode
    obtain ⟨t2, a1, b1⟩ := vx_out (Qc := noQ) (XC := thX X3 code3) (free := fun _ => False) (ls := ls) (pc := pc) (rest := rest) (mc := 1) (ms := 6) (e := e) (p := p) (l := l) (R := R) (args := args) (below := below) (fun x h => (hta x h).elim) hlocks (H := T'.heap) (by rw [e1]; exact hce) hcv hcl (fun t9 ht9 _ => ⟨(), trivial, hE, by rw [ht9, e1]; exact hz, fun a h1 h2 => by rw [ht9, e1]; exact hk a h1 h2⟩) (locs := []) (fun _ h => nomatch h) (Nat.le_refl _) (Nat.le_refl _) T' rfl X2
    exact ⟨t2, st.trans a1, b1⟩
theorem cx_V (hQ : Q = vx_MQ below noQ (thX X3 code3) args s 1 6 (fun _ => False)) (hM : TX l E q σ y bytes maxL ret rm As X2 code) (hg : GoodIn lw_all (wsV own idx (RK 0) y (ws_ y bytes maxL ret))) (hd : hdT y (RK 0) As.length) (hrm : rm.cells = 1 ∧ rm.slots = 6) (S : Fx p m c cc nL s args own) (hK : KK E s) (hP : PP 0 E q σ s.heap) (hX : XF q s) (hta : ∀ x ∈ c.exceptionTable.toList, False) (hlocks : meth.locks = false) (hst : st0 = As.reverse ++ .ref (q 0) :: rest) (hsz : ls.size = nL) (hw : (rest.map fun v => v.category).sum ≤ 8) (hR : rm.frames + 1 ≤ R.frames ∧ 8 + (maxL + 11) + rm.locals ≤ R.locals) (hcs : 0 + 1 ≤ R.cells ∧ 0 + 6 ≤ R.slots) (hdg : decode cc pc = .ok (.invokevirtual idx, 3)) (hcode : xn X2 code = xn X3 code3) : W p l e R s m args below meth c s.heap [] 0 0 Q (F0 m pc ls st0) := by
  subst hst
  exact tx_on hQ hta hlocks hcode (vx_runV (As := As) (rest := rest) S hM (cwV As.length S.2.2.2.2 hg rfl hrm.1 hrm.2 hd hR) (pre_X hK hP hX) rfl rfl hsz rfl (lv_room hw) hdg hcs)
theorem cx_S (hQ : Q = vx_MQ below noQ (thX X3 code3) args s 1 6 (fun _ => False)) (hM : TN l q y bytes maxL ret rm As X2 code) (hg : GoodIn lw_all (va_wsS own idx y (ws_ y bytes maxL ret))) {C : String} (hd : hdT y C As.length) (hrm : rm.cells = 1 ∧ rm.slots = 6) (S : Fx p m c cc nL s args own) (hX : XF q s) (hta : ∀ x ∈ c.exceptionTable.toList, False) (hlocks : meth.locks = false) (hst : st0 = As.reverse ++ rest) (hsz : ls.size = nL) (hw : (rest.map fun v => v.category).sum ≤ 8) (hR : rm.frames + 1 ≤ R.frames ∧ 8 + (maxL + 11) + rm.locals ≤ R.locals) (hcs : 0 + 1 ≤ R.cells ∧ 0 + 6 ≤ R.slots) (hdg : decode cc pc = .ok (.invokestatic idx, 3)) (hcode : xn X2 code = xn X3 code3) : W p l e R s m args below meth c s.heap [] 0 0 Q (F0 m pc ls st0) := by
  subst hst
  exact tx_on hQ hta hlocks hcode (vx_runS (As := As) (rest := rest) S hM (va_cwS As.length S.2.2.2.2 hg rfl hrm.1 hrm.2 hd.2 hR) ⟨fun _ _ _ _ h => ⟨h.1, h.2.calling⟩, fun U hU hW => ⟨rfl, hX.warm hW (fun a _ _ => by rw [hU])⟩⟩ rfl rfl hsz rfl (lv_room hw) hdg hcs)
end TXR
section RVC
variable {p : Program} {l : Launch} {e : Env} {R : Room} {s : State} {m : MethodId} {args : Array Value} {below : List Frame} {meth : Method} {c : Code} {H : Heap} {locs : List Loc} {cells slots : Nat} {Q : State → Prop}
variable {cc bytes : ByteArray} {pc idx nL maxL : Nat} {ls : Array Slot} {rest st0 As : List Value} {E : Ev} {q : Nat → Nat} {σ : St} {k : Nat} {y : MethodName} {ret : Option FieldType} {rm : Room} {own : String} {ex : Prop}
theorem cs_Sv {post : Unit → Prop} {a : Array Value} (hr : va_Run p l e R s m args below meth c H locs cells slots 0 0 (F0 m pc ls st0) rest (va_Sv post a) (fun _ => False))
    (kk : post () → W p l e R s m args below meth c H locs cells slots Q (F0 m (pc + 3) ls rest)) : W p l e R s m args below meth c H locs cells slots Q (F0 m pc ls st0) := by
  intro T hT X
  obtain ⟨v, st₀, t, T', L, h0, X', hL, e1, e2, ⟨hv, hp, hh⟩, st⟩ := hr T hT X
  cases hv
  obtain ⟨t2, a1, b1⟩ := kk hp T' (by rw [e1, hh, h0]) (Stand.forget X' (fun q h => (hL q h).elim))
  exact ⟨t2, st t2 a1, b1⟩
theorem cl_RV (hM : RV l k E q σ y bytes maxL ret rm As ex) (hg : GoodIn lw_all (wsV own idx (RK k) y (ws_ y bytes maxL ret))) (hd : hdT y (RK k) As.length) (hrm : rm.cells = 0 ∧ rm.slots = 0) (S : Fx p m c cc nL s args own) (hK : KK E s) (hP : PP k E q σ H) (hst : st0 = As.reverse ++ .ref (q 0) :: rest) (hsz : ls.size = nL) (hw : (rest.map fun v => v.category).sum ≤ 8) (hR : rm.frames + 1 ≤ R.frames ∧ 8 + (maxL + 11) + rm.locals ≤ R.locals) (hcs : cells ≤ R.cells ∧ slots ≤ R.slots) (hdg : decode cc pc = .ok (.invokevirtual idx, 3))
    (kk : ex → W p l e R s m args below meth c H locs cells slots Q (F0 m (pc + 3) ls rest)) : W p l e R s m args below meth c H locs cells slots Q (F0 m pc ls st0) := by
  subst hst
  exact cs_Sv (va_runV (As := As) (rest := rest) S hM (cwV As.length S.2.2.2.2 hg rfl hrm.1 hrm.2 hd hR) (pre_V hK hP) rfl rfl hsz rfl (lv_room hw) hdg hcs) kk
theorem cl_NV (hM : NV l y bytes maxL ret rm As) (hg : GoodIn lw_all (va_wsS own idx y (ws_ y bytes maxL ret))) {C : String} (hd : hdT y C As.length) (hrm : rm.cells = 0 ∧ rm.slots = 0) (S : Fx p m c cc nL s args own) (hst : st0 = As.reverse ++ rest) (hsz : ls.size = nL) (hw : (rest.map fun v => v.category).sum ≤ 8) (hR : rm.frames + 1 ≤ R.frames ∧ 8 + (maxL + 11) + rm.locals ≤ R.locals) (hcs : cells ≤ R.cells ∧ slots ≤ R.slots) (hdg : decode cc pc = .ok (.invokestatic idx, 3))
    (kk : W p l e R s m args below meth c H locs cells slots Q (F0 m (pc + 3) ls rest)) : W p l e R s m args below meth c H locs cells slots Q (F0 m pc ls st0) := by
  subst hst
  exact cs_Sv (va_runS (As := As) (rest := rest) S hM (va_cwS As.length S.2.2.2.2 hg rfl hrm.1 hrm.2 hd.2 hR) ⟨fun _ _ _ _ h => h, fun U hU hW => ⟨rfl, trivial⟩⟩ rfl rfl hsz rfl (lv_room hw) hdg hcs) (fun _ => kk)
theorem rt_RV (hQ : Q = MQ below (va_Sv (fun _ => ex)) args s 0 0 (fun _ => False)) (hx : p.tables.exec = Jvm.exec) (hb : c.code = cc) (hr : meth.sig.returnType = none) (hlocks : meth.locks = false) (hv : ex) (hdg : decode cc pc = .ok (.return_, 1)) : W p l e R s m args below meth c s.heap [] 0 0 Q (F0 m pc ls []) :=
  hQ ▸ W.vret hx hb hr (fun t ht _ => ⟨rfl, hv, ht⟩) (fun _ h => nomatch h) hdg hlocks
end RVC
