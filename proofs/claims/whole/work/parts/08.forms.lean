/-! the forms of the contracts: R reads alone (the heap stays), W writes; I an int, J a long, V nothing -/
section FM
variable (l : Launch) (k : Nat) (E : Ev) (q : Nat → Nat) (σ : St) (y : MethodName) (cc : ByteArray) (n : Nat) (r : Option FieldType) (rm : Room) (As : List Value)
def preF : Array Value → State → Prop := va_Pc (.ref (q 0) :: As) (fun U => PP k E q σ U.heap ∧ KK E U)
def RI (v : Int32) (ex : Prop) : Prop := Met l y (ws_ y cc n r) rm (preF k E q σ As) (vp_Si (fun w => w = v ∧ ex)) 0 0 (fun _ => False)
def RJ (v : Int64) (ex : Prop) : Prop := Met l y (ws_ y cc n r) rm (preF k E q σ As) (vp_Sl (fun w => w = v ∧ ex)) 0 0 (fun _ => False)
def WI (v : Int32) (σ' : St) (ex : Prop) : Prop := Met l y (ws_ y cc n r) rm (preF k E q σ As) (va_Qi (fun w (_ : Unit) => w = v ∧ ex) (fun _ t => PP k E q σ' t.heap) (Aq q)) 0 0 (Aq q)
def WJ (v : Int64) (σ' : St) (ex : Prop) : Prop := Met l y (ws_ y cc n r) rm (preF k E q σ As) (va_Ql (fun w (_ : Unit) => w = v ∧ ex) (fun _ t => PP k E q σ' t.heap) (Aq q)) 0 0 (Aq q)
def WV (σ' : St) (ex : Prop) : Prop := Met l y (ws_ y cc n r) rm (preF k E q σ As) (va_Qv (fun (_ : Unit) => ex) (fun _ t => PP k E q σ' t.heap) (Aq q)) 0 0 (Aq q)
/-- a static method of numbers alone -/
def NI (v : Int32) : Prop := Met l y (ws_ y cc n r) rm (va_Pc As (fun _ => True)) (vp_Si (fun w => w = v)) 0 0 (fun _ => False)
end FM
/-- what a body has at hand -/
def Bd (p : Program) (s : State) (m : MethodId) (args : Array Value) (meth : Method) (c : Code) (own : String) (cc : ByteArray) (nL : Nat) (r : Option FieldType) : Prop :=
  p.tables.exec = Jvm.exec ∧ c.code = cc ∧ c.maxLocals = nL ∧ meth.sig.returnType = r ∧ meth.locks = false ∧ s.vm.findClass own = some m.cls ∧ ∀ w ∈ lw_all, w.before args s = true
section OF
variable {l : Launch} {k : Nat} {E : Ev} {q : Nat → Nat} {σ : St} {y : MethodName} {cc : ByteArray} {n : Nat} {r : Option FieldType} {rm : Room} {As : List Value}
theorem Met.ofB {Pc : State → Prop} {Qc : Array Value → State → Outcome → State → Prop} {free : Addr → Prop} {Vs : List Value} (hy : plainName y.cls = true) (hn : (lg_sl Vs).length ≤ n)
    (body : ∀ (p : Program) (e : Env) (s : State) (m : MethodId) (below : List Frame) (meth : Method) (c : Code) (ls : Array Slot), Bd p s m Vs.toArray meth c y.cls cc n r → Pc s → lv_has ls n (lv_args 0 Vs) →
      W p l e rm s m Vs.toArray below meth c s.heap [] 0 0 (MQ below Qc Vs.toArray s 0 0 free) (F0 m 0 ls [])) : Met l y (ws_ y cc n r) rm (va_Pc Vs Pc) Qc 0 0 free := by
  refine Met.ofW (cc := cc) (maxL := n) (ret := r) hy rfl ?_
  intro p e s m args below meth c s₁ B hml hv
  obtain ⟨rfl, hP⟩ := hv
  have hts := atoms_spec (ws := ws_ y cc n r) B.pre
  have hl := lv_entry Vs (n := n) hn
  rw [lg_entry_eq]
  exact body p e s m below meth c _ ⟨B.exec, B.bytes, hml, B.returns, B.notSynchronized, findClass_of_methodNamed B.named, fun w h => hts w (List.mem_cons_of_mem _ h)⟩ hP hl
end OF
section RT
variable {p : Program} {l : Launch} {e : Env} {R : Room} {s : State} {m : MethodId} {args : Array Value} {below : List Frame} {meth : Method} {c : Code} {H : Heap} {locs : List Loc} {Q : State → Prop}
variable {cc : ByteArray} {pc : Nat} {ls : Array Slot} {E : Ev} {q : Nat → Nat} {σ σ' : St} {k : Nat} {x v : Int32} {z w : Int64} {ex : Prop}
theorem rt_RI (hx : p.tables.exec = Jvm.exec) (hb : c.code = cc) (hr : meth.sig.returnType = some .int) (hlocks : meth.locks = false) (hv : x = v ∧ ex) (hdg : decode cc pc = .ok (.ireturn, 1)) : W p l e R s m args below meth c s.heap [] 0 0 (MQ below (vp_Si (fun w => w = v ∧ ex)) args s 0 0 (fun _ => False)) (F0 m pc ls [.int x]) :=
  W.iret hx hb hr (fun t ht _ => ⟨x, rfl, hv, ht⟩) (fun _ h => nomatch h) hdg hlocks
theorem rt_RZ (hx : p.tables.exec = Jvm.exec) (hb : c.code = cc) (hr : meth.sig.returnType = some .boolean) (hlocks : meth.locks = false) (hn : narrow .boolean (.int x) = .int x) (hv : x = v ∧ ex) (hdg : decode cc pc = .ok (.ireturn, 1)) : W p l e R s m args below meth c s.heap [] 0 0 (MQ below (vp_Si (fun w => w = v ∧ ex)) args s 0 0 (fun _ => False)) (F0 m pc ls [.int x]) :=
  W.zret hx hb hr hn (fun t ht _ => ⟨x, rfl, hv, ht⟩) (fun _ h => nomatch h) hdg hlocks
theorem rt_RJ (hx : p.tables.exec = Jvm.exec) (hb : c.code = cc) (hr : meth.sig.returnType = some .long) (hlocks : meth.locks = false) (hv : z = w ∧ ex) (hdg : decode cc pc = .ok (.lreturn, 1)) : W p l e R s m args below meth c s.heap [] 0 0 (MQ below (vp_Sl (fun x => x = w ∧ ex)) args s 0 0 (fun _ => False)) (F0 m pc ls [.long z]) :=
  W.lret hx hb hr (fun t ht _ => ⟨z, rfl, hv, ht⟩) (fun _ h => nomatch h) hdg hlocks
theorem rt_NI (hx : p.tables.exec = Jvm.exec) (hb : c.code = cc) (hr : meth.sig.returnType = some .int) (hlocks : meth.locks = false) (hv : x = v) (hdg : decode cc pc = .ok (.ireturn, 1)) : W p l e R s m args below meth c s.heap [] 0 0 (MQ below (vp_Si (fun w => w = v)) args s 0 0 (fun _ => False)) (F0 m pc ls [.int x]) :=
  W.iret hx hb hr (fun t ht _ => ⟨x, rfl, hv, ht⟩) (fun _ h => nomatch h) hdg hlocks
theorem rt_NZ (hx : p.tables.exec = Jvm.exec) (hb : c.code = cc) (hr : meth.sig.returnType = some .boolean) (hlocks : meth.locks = false) (hn : narrow .boolean (.int x) = .int x) (hv : x = v) (hdg : decode cc pc = .ok (.ireturn, 1)) : W p l e R s m args below meth c s.heap [] 0 0 (MQ below (vp_Si (fun w => w = v)) args s 0 0 (fun _ => False)) (F0 m pc ls [.int x]) :=
  W.zret hx hb hr hn (fun t ht _ => ⟨x, rfl, hv, ht⟩) (fun _ h => nomatch h) hdg hlocks
theorem rt_WI (hx : p.tables.exec = Jvm.exec) (hb : c.code = cc) (hr : meth.sig.returnType = some .int) (hlocks : meth.locks = false) (hP : PP k E q σ' H) (hS : va_S (Aq q) s.heap H locs) (hv : x = v ∧ ex) (hdg : decode cc pc = .ok (.ireturn, 1)) : W p l e R s m args below meth c H locs 0 0 (MQ below (va_Qi (fun w (_ : Unit) => w = v ∧ ex) (fun _ t => PP k E q σ' t.heap) (Aq q)) args s 0 0 (Aq q)) (F0 m pc ls [.int x]) :=
  W.iret hx hb hr (fun t ht _ => ⟨⟨x, (), rfl, hv, by show PP _ _ _ _ t.heap; rw [ht]; exact hP⟩, hS.F ht⟩) hS.2.2 hdg hlocks
theorem rt_WZ (hx : p.tables.exec = Jvm.exec) (hb : c.code = cc) (hr : meth.sig.returnType = some .boolean) (hlocks : meth.locks = false) (hn : narrow .boolean (.int x) = .int x) (hP : PP k E q σ' H) (hS : va_S (Aq q) s.heap H locs) (hv : x = v ∧ ex) (hdg : decode cc pc = .ok (.ireturn, 1)) : W p l e R s m args below meth c H locs 0 0 (MQ below (va_Qi (fun w (_ : Unit) => w = v ∧ ex) (fun _ t => PP k E q σ' t.heap) (Aq q)) args s 0 0 (Aq q)) (F0 m pc ls [.int x]) :=
  W.zret hx hb hr hn (fun t ht _ => ⟨⟨x, (), rfl, hv, by show PP _ _ _ _ t.heap; rw [ht]; exact hP⟩, hS.F ht⟩) hS.2.2 hdg hlocks
theorem rt_WJ (hx : p.tables.exec = Jvm.exec) (hb : c.code = cc) (hr : meth.sig.returnType = some .long) (hlocks : meth.locks = false) (hP : PP k E q σ' H) (hS : va_S (Aq q) s.heap H locs) (hv : z = w ∧ ex) (hdg : decode cc pc = .ok (.lreturn, 1)) : W p l e R s m args below meth c H locs 0 0 (MQ below (va_Ql (fun x (_ : Unit) => x = w ∧ ex) (fun _ t => PP k E q σ' t.heap) (Aq q)) args s 0 0 (Aq q)) (F0 m pc ls [.long z]) :=
  W.lret hx hb hr (fun t ht _ => ⟨⟨z, (), rfl, hv, by show PP _ _ _ _ t.heap; rw [ht]; exact hP⟩, hS.F ht⟩) hS.2.2 hdg hlocks
theorem rt_WV (hx : p.tables.exec = Jvm.exec) (hb : c.code = cc) (hr : meth.sig.returnType = none) (hlocks : meth.locks = false) (hP : PP k E q σ' H) (hS : va_S (Aq q) s.heap H locs) (hv : ex) (hdg : decode cc pc = .ok (.return_, 1)) : W p l e R s m args below meth c H locs 0 0 (MQ below (va_Qv (fun (_ : Unit) => ex) (fun _ t => PP k E q σ' t.heap) (Aq q)) args s 0 0 (Aq q)) (F0 m pc ls []) :=
  W.vret hx hb hr (fun t ht _ => ⟨⟨(), rfl, hv, by show PP _ _ _ _ t.heap; rw [ht]; exact hP⟩, hS.F ht⟩) hS.2.2 hdg hlocks
end RT
section CL
variable {p : Program} {l : Launch} {e : Env} {R : Room} {s : State} {m : MethodId} {args : Array Value} {below : List Frame} {meth : Method} {c : Code} {H : Heap} {locs : List Loc} {cells slots : Nat} {Q : State → Prop}
variable {cc bytes : ByteArray} {pc idx nL maxL : Nat} {ls : Array Slot} {rest st0 As : List Value} {E : Ev} {q : Nat → Nat} {σ σ' : St} {k : Nat} {H0 : Heap} {y : MethodName} {ret : Option FieldType} {rm : Room} {own : String} {v : Int32} {w : Int64} {ex : Prop}
theorem preF_blind : FrameBlind (preF k E q σ As) := fun _ _ _ _ h => ⟨h.1, h.2.1, KK.moved (Vm.Alike.refl _) h.2.2⟩
theorem pre_V (hK : KK E s) (hP : PP k E q σ H) : PreV s H (RK k) (q 0) (preF k E q σ As) As := ⟨preF_blind, hP.recv hK, fun U hU hW => ⟨rfl, by rw [hU]; exact hP, KK.moved hW.alike hK⟩⟩
theorem cs_Si {post : Int32 → Prop} {a : Array Value} (hr : va_Run p l e R s m args below meth c H locs cells slots 0 0 (F0 m pc ls st0) rest (vp_Si post a) (fun _ => False))
    (kk : ∀ r : Int32, post r → W p l e R s m args below meth c H locs cells slots Q (F0 m (pc + 3) ls (.int r :: rest))) : W p l e R s m args below meth c H locs cells slots Q (F0 m pc ls st0) := by
  intro T hT X
  obtain ⟨v, st₀, t, T', L, h0, X', hL, e1, e2, ⟨r, hv, hp, hh⟩, st⟩ := hr T hT X
  cases hv
  obtain ⟨t2, a1, b1⟩ := kk r hp T' (by rw [e1, hh, h0]) (Stand.forget X' (fun q h => (hL q h).elim))
  exact ⟨t2, st t2 a1, b1⟩
theorem cs_Sl {post : Int64 → Prop} {a : Array Value} (hr : va_Run p l e R s m args below meth c H locs cells slots 0 0 (F0 m pc ls st0) rest (vp_Sl post a) (fun _ => False))
    (kk : ∀ r : Int64, post r → W p l e R s m args below meth c H locs cells slots Q (F0 m (pc + 3) ls (.long r :: rest))) : W p l e R s m args below meth c H locs cells slots Q (F0 m pc ls st0) := by
  intro T hT X
  obtain ⟨v, st₀, t, T', L, h0, X', hL, e1, e2, ⟨r, hv, hp, hh⟩, st⟩ := hr T hT X
  cases hv
  obtain ⟨t2, a1, b1⟩ := kk r hp T' (by rw [e1, hh, h0]) (Stand.forget X' (fun q h => (hL q h).elim))
  exact ⟨t2, st t2 a1, b1⟩
abbrev hdT (y : MethodName) (C : String) (n : Nat) : Prop := y.cls = C ∧ y.cls ≠ "java/lang/invoke/MethodHandle" ∧ y.cls ≠ "java/lang/invoke/VarHandle" ∧ (parseMethodDescriptor y.desc).map (fun d => d.parameters.length) = some n
abbrev Fx (p : Program) (m : MethodId) (c : Code) (cc : ByteArray) (nL : Nat) (s : State) (args : Array Value) (own : String) : Prop := CallFix p m c cc nL s args lw_all own
theorem cl_RI (hM : RI l k E q σ y bytes maxL ret rm As v ex) (hg : GoodIn lw_all (wsV own idx (RK k) y (ws_ y bytes maxL ret))) (hd : hdT y (RK k) As.length) (hrm : rm.cells = 0 ∧ rm.slots = 0) (S : Fx p m c cc nL s args own) (hK : KK E s) (hP : PP k E q σ H) (hst : st0 = As.reverse ++ .ref (q 0) :: rest) (hsz : ls.size = nL) (hw : (rest.map fun v => v.category).sum ≤ 8) (hR : rm.frames + 1 ≤ R.frames ∧ 8 + (maxL + 11) + rm.locals ≤ R.locals) (hcs : cells ≤ R.cells ∧ slots ≤ R.slots) (hdg : decode cc pc = .ok (.invokevirtual idx, 3))
    (kk : ex → W p l e R s m args below meth c H locs cells slots Q (F0 m (pc + 3) ls (.int v :: rest))) : W p l e R s m args below meth c H locs cells slots Q (F0 m pc ls st0) := by
  subst hst
  refine cs_Si (va_runV (As := As) (rest := rest) S hM (cwV As.length S.2.2.2.2 hg rfl hrm.1 hrm.2 hd hR) (pre_V hK hP) rfl rfl hsz rfl (lv_room hw) hdg hcs) (fun r hr => ?_)
  rw [hr.1]
  exact kk hr.2
theorem cl_RJ (hM : RJ l k E q σ y bytes maxL ret rm As w ex) (hg : GoodIn lw_all (wsV own idx (RK k) y (ws_ y bytes maxL ret))) (hd : hdT y (RK k) As.length) (hrm : rm.cells = 0 ∧ rm.slots = 0) (S : Fx p m c cc nL s args own) (hK : KK E s) (hP : PP k E q σ H) (hst : st0 = As.reverse ++ .ref (q 0) :: rest) (hsz : ls.size = nL) (hw : (rest.map fun v => v.category).sum ≤ 8) (hR : rm.frames + 1 ≤ R.frames ∧ 8 + (maxL + 11) + rm.locals ≤ R.locals) (hcs : cells ≤ R.cells ∧ slots ≤ R.slots) (hdg : decode cc pc = .ok (.invokevirtual idx, 3))
    (kk : ex → W p l e R s m args below meth c H locs cells slots Q (F0 m (pc + 3) ls (.long w :: rest))) : W p l e R s m args below meth c H locs cells slots Q (F0 m pc ls st0) := by
  subst hst
  refine cs_Sl (va_runV (As := As) (rest := rest) S hM (cwV As.length S.2.2.2.2 hg rfl hrm.1 hrm.2 hd hR) (pre_V hK hP) rfl rfl hsz rfl (lv_room hw) hdg hcs) (fun r hr => ?_)
  rw [hr.1]
  exact kk hr.2
theorem cl_NI (hM : NI l y bytes maxL ret rm As v) (hg : GoodIn lw_all (va_wsS own idx y (ws_ y bytes maxL ret))) {C : String} (hd : hdT y C As.length) (hrm : rm.cells = 0 ∧ rm.slots = 0) (S : Fx p m c cc nL s args own) (hst : st0 = As.reverse ++ rest) (hsz : ls.size = nL) (hw : (rest.map fun v => v.category).sum ≤ 8) (hR : rm.frames + 1 ≤ R.frames ∧ 8 + (maxL + 11) + rm.locals ≤ R.locals) (hcs : cells ≤ R.cells ∧ slots ≤ R.slots) (hdg : decode cc pc = .ok (.invokestatic idx, 3))
    (kk : W p l e R s m args below meth c H locs cells slots Q (F0 m (pc + 3) ls (.int v :: rest))) : W p l e R s m args below meth c H locs cells slots Q (F0 m pc ls st0) := by
  subst hst
  refine cs_Si (va_runS (As := As) (rest := rest) S hM (va_cwS As.length S.2.2.2.2 hg rfl hrm.1 hrm.2 hd.2 hR) ⟨fun _ _ _ _ h => h, fun U hU hW => ⟨rfl, trivial⟩⟩ rfl rfl hsz rfl (lv_room hw) hdg hcs) (fun r hr => ?_)
  rw [hr]
  exact kk
theorem cl_WI (hM : WI l k E q σ y bytes maxL ret rm As v σ' ex) (hg : GoodIn lw_all (wsV own idx (RK k) y (ws_ y bytes maxL ret))) (hd : hdT y (RK k) As.length) (hrm : rm.cells = 0 ∧ rm.slots = 0) (S : Fx p m c cc nL s args own) (hK : KK E s) (hP : PP k E q σ H) (hS : va_S (Aq q) H0 H locs) (hst : st0 = As.reverse ++ .ref (q 0) :: rest) (hsz : ls.size = nL) (hw : (rest.map fun v => v.category).sum ≤ 8) (hR : rm.frames + 1 ≤ R.frames ∧ 8 + (maxL + 11) + rm.locals ≤ R.locals) (hcs : cells ≤ R.cells ∧ slots ≤ R.slots) (hdg : decode cc pc = .ok (.invokevirtual idx, 3))
    (kk : ∀ (H1 : Heap) (locs1 : List Loc), PP k E q σ' H1 → va_S (Aq q) H0 H1 locs1 → ex → W p l e R s m args below meth c H1 locs1 cells slots Q (F0 m (pc + 3) ls (.int v :: rest))) : W p l e R s m args below meth c H locs cells slots Q (F0 m pc ls st0) := by
  subst hst
  refine va_calli (va_runV (As := As) (rest := rest) S hM (cwV As.length S.2.2.2.2 hg rfl hrm.1 hrm.2 hd hR) (pre_V hK hP) rfl rfl hsz rfl (lv_room hw) hdg hcs) hS (fun _ _ h => h) (fun _ h => h) (fun r u t H1 locs1 ht _ hw hB _ _ hS1 => ?_)
  rw [hw.1]
  rw [ht] at hB
  exact kk H1 locs1 hB hS1 hw.2
theorem cl_WJ (hM : WJ l k E q σ y bytes maxL ret rm As w σ' ex) (hg : GoodIn lw_all (wsV own idx (RK k) y (ws_ y bytes maxL ret))) (hd : hdT y (RK k) As.length) (hrm : rm.cells = 0 ∧ rm.slots = 0) (S : Fx p m c cc nL s args own) (hK : KK E s) (hP : PP k E q σ H) (hS : va_S (Aq q) H0 H locs) (hst : st0 = As.reverse ++ .ref (q 0) :: rest) (hsz : ls.size = nL) (hw : (rest.map fun v => v.category).sum ≤ 8) (hR : rm.frames + 1 ≤ R.frames ∧ 8 + (maxL + 11) + rm.locals ≤ R.locals) (hcs : cells ≤ R.cells ∧ slots ≤ R.slots) (hdg : decode cc pc = .ok (.invokevirtual idx, 3))
    (kk : ∀ (H1 : Heap) (locs1 : List Loc), PP k E q σ' H1 → va_S (Aq q) H0 H1 locs1 → ex → W p l e R s m args below meth c H1 locs1 cells slots Q (F0 m (pc + 3) ls (.long w :: rest))) : W p l e R s m args below meth c H locs cells slots Q (F0 m pc ls st0) := by
  subst hst
  refine va_calll (va_runV (As := As) (rest := rest) S hM (cwV As.length S.2.2.2.2 hg rfl hrm.1 hrm.2 hd hR) (pre_V hK hP) rfl rfl hsz rfl (lv_room hw) hdg hcs) hS (fun _ _ h => h) (fun _ h => h) (fun r u t H1 locs1 ht _ hw hB _ _ hS1 => ?_)
  rw [hw.1]
  rw [ht] at hB
  exact kk H1 locs1 hB hS1 hw.2
theorem cl_WV (hM : WV l k E q σ y bytes maxL ret rm As σ' ex) (hg : GoodIn lw_all (wsV own idx (RK k) y (ws_ y bytes maxL ret))) (hd : hdT y (RK k) As.length) (hrm : rm.cells = 0 ∧ rm.slots = 0) (S : Fx p m c cc nL s args own) (hK : KK E s) (hP : PP k E q σ H) (hS : va_S (Aq q) H0 H locs) (hst : st0 = As.reverse ++ .ref (q 0) :: rest) (hsz : ls.size = nL) (hw : (rest.map fun v => v.category).sum ≤ 8) (hR : rm.frames + 1 ≤ R.frames ∧ 8 + (maxL + 11) + rm.locals ≤ R.locals) (hcs : cells ≤ R.cells ∧ slots ≤ R.slots) (hdg : decode cc pc = .ok (.invokevirtual idx, 3))
    (kk : ∀ (H1 : Heap) (locs1 : List Loc), PP k E q σ' H1 → va_S (Aq q) H0 H1 locs1 → ex → W p l e R s m args below meth c H1 locs1 cells slots Q (F0 m (pc + 3) ls rest)) : W p l e R s m args below meth c H locs cells slots Q (F0 m pc ls st0) := by
  subst hst
  refine va_callv (va_runV (As := As) (rest := rest) S hM (cwV As.length S.2.2.2.2 hg rfl hrm.1 hrm.2 hd hR) (pre_V hK hP) rfl rfl hsz rfl (lv_room hw) hdg hcs) hS (fun _ _ h => h) (fun _ h => h) (fun u t H1 locs1 ht _ hw hB _ _ hS1 => ?_)
  rw [ht] at hB
  exact kk H1 locs1 hB hS1 hw
end CL
