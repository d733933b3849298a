/-! the forms of the contracts: R reads alone (the heap stays), W writes; I an int, J a long, V nothing -/
section FM
variable (l : Launch) (k : Nat) (E : Ev) (q : Nat → Nat) (σ : St) (y : MethodName) (cc : ByteArray) (n : Nat) (r : Option FieldType) (rm : Room) (As : List Value)
def preF : Array Value → State → Prop := va_Pc (.ref (q 0) :: As) (fun U => PP k E q σ U.heap ∧ KK E U)
def RI (v : Int32) (ex : Prop) : Prop := Met l y (ws_ y cc n r) rm (preF k E q σ As) (vp_Si (fun w => w = v ∧ ex)) 0 0 (fun _ => False)
def RJ (v : Int64) (ex : Prop) : Prop := Met l y (ws_ y cc n r) rm (preF k E q σ As) (vp_Sl (fun w => w = v ∧ ex)) 0 0 (fun _ => False)
def WI (v : Int32) (σ' : St) (ex : Prop) : Prop := Met l y (ws_ y cc n r) rm (preF k E q σ As) (va_Qi (fun w (_ : Unit) => w = v ∧ ex) (fun _ t => PP k E q σ' t.heap) (Aq q)) 0 0 (Aq q)
def WJ (v : Int64) (σ' : St) (ex : Prop) : Prop := Met l y (ws_ y cc n r) rm (preF k E q σ As) (va_Ql (fun w (_ : Unit) => w = v ∧ ex) (fun _ t => PP k E q σ' t.heap) (Aq q)) 0 0 (Aq q)
def WV (σ' : St) (ex : Prop) : Prop := Met l y (ws_ y cc n r) rm (preF k E q σ As) (va_Qv (fun (_ : Unit) => ex) (fun _ t => PP k E q σ' t.heap) (Aq q)) 0 0 (Aq q)
/-- a static method of numbers alone -/
def NI (v : Int32) : Prop := Met l y (ws_ y cc n r) rm (va_Pc As (fun _ => True)) (vp_Si (fun w => w = v)) 0 0 (fun _ => False)
end FM
/-- what a body has at hand -/
def Bd (p : Program) (s : State) (m : MethodId) (args : Array Value) (meth : Method) (c : Code) (own : String) (cc : ByteArray) (nL : Nat) (r : Option FieldType) : Prop :=
  p.tables.exec = Jvm.exec ∧ c.code = cc ∧ c.maxLocals = nL ∧ meth.sig.returnType = r ∧ meth.locks = false ∧ s.vm.findClass own = some m.cls ∧ ∀ w ∈ lw_all, w.before args s = true
section OF
variable {l : Launch} {k : Nat} {E : Ev} {q : Nat → Nat} {σ : St} {y : MethodName} {cc : ByteArray} {n : Nat} {r : Option FieldType} {rm : Room} {As : List Value}
theorem Met.ofB {Pc : State → Prop} {Qc : Array Value → State → Outcome → State → Prop} {free : Addr → Prop} {Vs : List Value} (hy : plainName y.cls = true) (hn : (lg_sl Vs).length ≤ n)
    (body : ∀ (p : Program) (e : Env) (s : State) (m : MethodId) (args : Array Value) (below : List Frame) (meth : Method) (c : Code) (ls : Array Slot) (Q : State → Prop), Bd p s m args meth c y.cls cc n r → Q = MQ below Qc args s 0 0 free → Pc s → lv_has ls n (lv_args 0 Vs) →
      W p l e rm s m args below meth c s.heap [] 0 0 Q (F0 m 0 ls [])) : Met l y (ws_ y cc n r) rm (va_Pc Vs Pc) Qc 0 0 free := by
  refine Met.ofW (cc := cc) (maxL := n) (ret := r) hy rfl ?_
  intro p e s m args below meth c s₁ B hml hv
  obtain ⟨rfl, hP⟩ := hv
  have hts := atoms_spec (ws := ws_ y cc n r) B.pre
  have hl := lv_entry Vs (n := n) hn
  rw [lg_entry_eq]
  exact body p e s m Vs.toArray below meth c _ _ ⟨B.exec, B.bytes, hml, B.returns, B.notSynchronized, findClass_of_methodNamed B.named, fun w h => hts w (List.mem_cons_of_mem _ h)⟩ rfl hP hl
end OF
section RT
variable {p : Program} {l : Launch} {e : Env} {R : Room} {s : State} {m : MethodId} {args : Array Value} {below : List Frame} {meth : Method} {c : Code} {H : Heap} {locs : List Loc} {Q : State → Prop}
variable {cc : ByteArray} {pc : Nat} {ls : Array Slot} {E : Ev} {q : Nat → Nat} {σ σ' : St} {k : Nat} {x v : Int32} {z w : Int64} {ex : Prop}
theorem rt_RI (hQ : Q = MQ below (vp_Si (fun w => w = v ∧ ex)) args s 0 0 (fun _ => False)) (hx : p.tables.exec = Jvm.exec) (hb : c.code = cc) (hr : meth.sig.returnType = some .int) (hlocks : meth.locks = false) (hv : x = v ∧ ex) (hdg : decode cc pc = .ok (.ireturn, 1)) : W p l e R s m args below meth c s.heap [] 0 0 Q (F0 m pc ls [.int x]) :=
  hQ ▸ W.iret hx hb hr (fun t ht _ => ⟨x, rfl, hv, ht⟩) (fun _ h => nomatch h) hdg hlocks
theorem rt_RZ (hQ : Q = MQ below (vp_Si (fun w => w = v ∧ ex)) args s 0 0 (fun _ => False)) (hx : p.tables.exec = Jvm.exec) (hb : c.code = cc) (hr : meth.sig.returnType = some .boolean) (hlocks : meth.locks = false) (hn : narrow .boolean (.int x) = .int x) (hv : x = v ∧ ex) (hdg : decode cc pc = .ok (.ireturn, 1)) : W p l e R s m args below meth c s.heap [] 0 0 Q (F0 m pc ls [.int x]) :=
  hQ ▸ W.zret hx hb hr hn (fun t ht _ => ⟨x, rfl, hv, ht⟩) (fun _ h => nomatch h) hdg hlocks
theorem rt_RJ (hQ : Q = MQ below (vp_Sl (fun x => x = w ∧ ex)) args s 0 0 (fun _ => False)) (hx : p.tables.exec = Jvm.exec) (hb : c.code = cc) (hr : meth.sig.returnType = some .long) (hlocks : meth.locks = false) (hv : z = w ∧ ex) (hdg : decode cc pc = .ok (.lreturn, 1)) : W p l e R s m args below meth c s.heap [] 0 0 Q (F0 m pc ls [.long z]) :=
  hQ ▸ W.lret hx hb hr (fun t ht _ => ⟨z, rfl, hv, ht⟩) (fun _ h => nomatch h) hdg hlocks
theorem rt_NI (hQ : Q = MQ below (vp_Si (fun w => w = v)) args s 0 0 (fun _ => False)) (hx : p.tables.exec = Jvm.exec) (hb : c.code = cc) (hr : meth.sig.returnType = some .int) (hlocks : meth.locks = false) (hv : x = v) (hdg : decode cc pc = .ok (.ireturn, 1)) : W p l e R s m args below meth c s.heap [] 0 0 Q (F0 m pc ls [.int x]) :=
  hQ ▸ W.iret hx hb hr (fun t ht _ => ⟨x, rfl, hv, ht⟩) (fun _ h => nomatch h) hdg hlocks
theorem rt_NZ (hQ : Q = MQ below (vp_Si (fun w => w = v)) args s 0 0 (fun _ => False)) (hx : p.tables.exec = Jvm.exec) (hb : c.code = cc) (hr : meth.sig.returnType = some .boolean) (hlocks : meth.locks = false) (hn : narrow .boolean (.int x) = .int x) (hv : x = v) (hdg : decode cc pc = .ok (.ireturn, 1)) : W p l e R s m args below meth c s.heap [] 0 0 Q (F0 m pc ls [.int x]) :=
  hQ ▸ W.zret hx hb hr hn (fun t ht _ => ⟨x, rfl, hv, ht⟩) (fun _ h => nomatch h) hdg hlocks
theorem rt_WI (hQ : Q = MQ below (va_Qi (fun w (_ : Unit) => w = v ∧ ex) (fun _ t => PP k E q σ' t.heap) (Aq q)) args s 0 0 (Aq q)) (hx : p.tables.exec = Jvm.exec) (hb : c.code = cc) (hr : meth.sig.returnType = some .int) (hlocks : meth.locks = false) (hP : PP k E q σ' H) (hS : va_S (Aq q) s.heap H locs) (hv : x = v ∧ ex) (hdg : decode cc pc = .ok (.ireturn, 1)) : W p l e R s m args below meth c H locs 0 0 Q (F0 m pc ls [.int x]) :=
  hQ ▸ W.iret hx hb hr (fun t ht _ => ⟨⟨x, (), rfl, hv, by show PP _ _ _ _ t.heap; rw [ht]; exact hP⟩, hS.F ht⟩) hS.2.2 hdg hlocks
theorem rt_WZ (hQ : Q = MQ below (va_Qi (fun w (_ : Unit) => w = v ∧ ex) (fun _ t => PP k E q σ' t.heap) (Aq q)) args s 0 0 (Aq q)) (hx : p.tables.exec = Jvm.exec) (hb : c.code = cc) (hr : meth.sig.returnType = some .boolean) (hlocks : meth.locks = false) (hn : narrow .boolean (.int x) = .int x) (hP : PP k E q σ' H) (hS : va_S (Aq q) s.heap H locs) (hv : x = v ∧ ex) (hdg : decode cc pc = .ok (.ireturn, 1)) : W p l e R s m args below meth c H locs 0 0 Q (F0 m pc ls [.int x]) :=
  hQ ▸ W.zret hx hb hr hn (fun t ht _ => ⟨⟨x, (), rfl, hv, by show PP _ _ _ _ t.heap; rw [ht]; exact hP⟩, hS.F ht⟩) hS.2.2 hdg hlocks
theorem rt_WJ (hQ : Q = MQ below (va_Ql (fun x (_ : Unit) => x = w ∧ ex) (fun _ t => PP k E q σ' t.heap) (Aq q)) args s 0 0 (Aq q)) (hx : p.tables.exec = Jvm.exec) (hb : c.code = cc) (hr : meth.sig.returnType = some .long) (hlocks : meth.locks = false) (hP : PP k E q σ' H) (hS : va_S (Aq q) s.heap H locs) (hv : z = w ∧ ex) (hdg : decode cc pc = .ok (.lreturn, 1)) : W p l e R s m args below meth c H locs 0 0 Q (F0 m pc ls [.long z]) :=
  hQ ▸ W.lret hx hb hr (fun t ht _ => ⟨⟨z, (), rfl, hv, by show PP _ _ _ _ t.heap; rw [ht]; exact hP⟩, hS.F ht⟩) hS.2.2 hdg hlocks
theorem rt_WV (hQ : Q = MQ below (va_Qv (fun (_ : Unit) => ex) (fun _ t => PP k E q σ' t.heap) (Aq q)) args s 0 0 (Aq q)) (hx : p.tables.exec = Jvm.exec) (hb : c.code = cc) (hr : meth.sig.returnType = none) (hlocks : meth.locks = false) (hP : PP k E q σ' H) (hS : va_S (Aq q) s.heap H locs) (hv : ex) (hdg : decode cc pc = .ok (.return_, 1)) : W p l e R s m args below meth c H locs 0 0 Q (F0 m pc ls []) :=
  hQ ▸ W.vret hx hb hr (fun t ht _ => ⟨⟨(), rfl, hv, by show PP _ _ _ _ t.heap; rw [ht]; exact hP⟩, hS.F ht⟩) hS.2.2 hdg hlocks
end RT
section CL
variable {p : Program} {l : Launch} {e : Env} {R : Room} {s : State} {m : MethodId} {args : Array Value} {below : List Frame} {meth : Method} {c : Code} {H : Heap} {locs : List Loc} {cells slots : Nat} {Q : State → Prop}
variable {cc bytes : ByteArray} {pc idx nL maxL : Nat} {ls : Array Slot} {rest st0 As : List Value} {E : Ev} {q : Nat → Nat} {σ σ' : St} {k : Nat} {H0 : Heap} {y : MethodName} {ret : Option FieldType} {rm : Room} {own : String} {v : Int32} {w : Int64} {ex : Prop}
theorem preF_blind : FrameBlind (preF k E q σ As) := fun _ _ _ _ h => ⟨h.1, h.2.1, KK.moved (Vm.Alike.refl _) h.2.2⟩
theorem pre_V (hK : KK E s) (hP : PP k E q σ H) : PreV s H (RK k) (q 0) (preF k E q σ As) As := ⟨preF_blind, hP.recv hK, fun U hU hW => ⟨rfl, by rw [hU]; exact hP, KK.moved hW.alike hK⟩⟩
theorem cs_Si {post : Int32 → Prop} {a : Array Value} (hr : va_Run p l e R s m args below meth c H locs cells slots 0 0 (F0 m pc ls st0) rest (vp_Si post a) (fun _ => False))
    (kk : ∀ r : Int32, post r → W p l e R s m args below meth c H locs cells slots Q (F0 m (pc + 3) ls (.int r :: rest))) : W p l e R s m args below meth c H locs cells slots Q (F0 m pc ls st0) := by
  intro T hT X
  obtain ⟨v, st₀, t, T', L, h0, X', hL, e1, e2, ⟨r, hv, hp, hh⟩, st⟩ := hr T hT X
  cases hv
  obtain ⟨t2, a1, b1⟩ := kk r hp T' (by rw [e1, hh, h0]) (Stand.forget X' (fun q h => (hL q h).elim))
  exact ⟨t2, st t2 a1, b1⟩
theorem cs_Sl {post : Int64 → Prop} {a : Array Value} (hr : va_Run p l e R s m args below meth c H locs cells slots 0 0 (F0 m pc ls st0) rest (vp_Sl post a) (fun _ => False))
    (kk : ∀ r : Int64, post r → W p l e R s m args below meth c H locs cells slots Q (F0 m (pc + 3) ls (.long r :: rest))) : W p l e R s m args below meth c H locs cells slots Q (F0 m pc ls st0) := by
  intro T hT X
  obtain ⟨v, st₀, t, T', L, h0, X', hL, e1, e2, ⟨r, hv, hp, hh⟩, st⟩ := hr T hT X
  cases hv
  obtain ⟨t2, a1, b1⟩ := kk r hp T' (by rw [e1, hh, h0]) (Stand.forget X' (fun q h => (hL q h).elim))
  exact ⟨t2, st t2 a1, b1⟩
abbrev hdT (y : MethodName) (C : String) (n : Nat) : Prop := y.cls = C ∧ y.cls ≠ "java/lang/invoke/MethodHandle" ∧ y.cls ≠ "java/lang/invoke/VarHandle" ∧ (parseMethodDescriptor y.desc).map (fun d => d.parameters.length) = some n
abbrev Fx (p : Program) (m : MethodId) (c : Code) (cc : ByteArray) (nL : Nat) (s : State) (args : Array Value) (own : String) : Prop := CallFix p m c cc nL s args lw_all own
theorem cl_RI (hM : RI l k E q σ y bytes maxL ret rm As v ex) (hg : GoodIn lw_all (wsV own idx (RK k) y (ws_ y bytes maxL ret))) (hd : hdT y (RK k) As.length) (hrm : rm.cells = 0 ∧ rm.slots = 0) (S : Fx p m c cc nL s args own) (hK : KK E s) (hP : PP k E q σ H) (hst : st0 = As.reverse ++ .ref (q 0) :: rest) (hsz : ls.size = nL) (hw : (rest.map fun v => v.category).sum ≤ 8) (hR : rm.frames + 1 ≤ R.frames ∧ 8 + (maxL + 11) + rm.locals ≤ R.locals) (hcs : cells ≤ R.cells ∧ slots ≤ R.slots) (hdg : decode cc pc = .ok (.invokevirtual idx, 3))
    (kk : ex → W p l e R s m args below meth c H locs cells slots Q (F0 m (pc + 3) ls (.int v :: rest))) : W p l e R s m args below meth c H locs cells slots Q (F0 m pc ls st0) := by
  subst hst
  refine cs_Si (va_runV (As := As) (rest := rest) S hM (cwV As.length S.2.2.2.2 hg rfl hrm.1 hrm.2 hd hR) (pre_V hK hP) rfl rfl hsz rfl (lv_room hw) hdg hcs) (fun r hr => ?_)
  rw [hr.1]
  exact kk hr.2
theorem cl_RJ (hM : RJ l k E q σ y bytes maxL ret rm As w ex) (hg : GoodIn lw_all (wsV own idx (RK k) y (ws_ y bytes maxL ret))) (hd : hdT y (RK k) As.length) (hrm : rm.cells = 0 ∧ rm.slots = 0) (S : Fx p m c cc nL s args own) (hK : KK E s) (hP : PP k E q σ H) (hst : st0 = As.reverse ++ .ref (q 0) :: rest) (hsz : ls.size = nL) (hw : (rest.map fun v => v.category).sum ≤ 8) (hR : rm.frames + 1 ≤ R.frames ∧ 8 + (maxL + 11) + rm.locals ≤ R.locals) (hcs : cells ≤ R.cells ∧ slots ≤ R.slots) (hdg : decode cc pc = .ok (.invokevirtual idx, 3))
    (kk : ex → W p l e R s m args below meth c H locs cells slots Q (F0 m (pc + 3) ls (.long w :: rest))) : W p l e R s m args below meth c H locs cells slots Q (F0 m pc ls st0) := by
  subst hst
  refine cs_Sl (va_runV (As := As) (rest := rest) S hM (cwV As.length S.2.2.2.2 hg rfl hrm.1 hrm.2 hd hR) (pre_V hK hP) rfl rfl hsz rfl (lv_room hw) hdg hcs) (fun r hr => ?_)
  rw [hr.1]
  exact kk hr.2
theorem cl_NI (hM : NI l y bytes maxL ret rm As v) (hg : GoodIn lw_all (va_wsS own idx y (ws_ y bytes maxL ret))) {C : String} (hd : hdT y C As.length) (hrm : rm.cells = 0 ∧ rm.slots = 0) (S : Fx p m c cc nL s args own) (hst : st0 = As.reverse ++ rest) (hsz : ls.size = nL) (hw : (rest.map fun v => v.category).sum ≤ 8) (hR : rm.frames + 1 ≤ R.frames ∧ 8 + (maxL + 11) + rm.locals ≤ R.locals) (hcs : cells ≤ R.cells ∧ slots ≤ R.slots) (hdg : decode cc pc = .ok (.invokestatic idx, 3))
    (kk : W p l e R s m args below meth c H locs cells slots Q (F0 m (pc + 3) ls (.int v :: rest))) : W p l e R s m args below meth c H locs cells slots Q (F0 m pc ls st0) := by
  subst hst
  refine cs_Si (va_runS (As := As) (rest := rest) S hM (va_cwS As.length S.2.2.2.2 hg rfl hrm.1 hrm.2 hd.2 hR) ⟨fun _ _ _ _ h => h, fun U hU hW => ⟨rfl, trivial⟩⟩ rfl rfl hsz rfl (lv_room hw) hdg hcs) (fun r hr => ?_)
  rw [hr]
  exact kk
theorem cl_WI (hM : WI l k E q σ y bytes maxL ret rm As v σ' ex) (hg : GoodIn lw_all (wsV own idx (RK k) y (ws_ y bytes maxL ret))) (hd : hdT y (RK k) As.length) (hrm : rm.cells = 0 ∧ rm.slots = 0) (S : Fx p m c cc nL s args own) (hK : KK E s) (hP : PP k E q σ H) (hS : va_S (Aq q) H0 H locs) (hst : st0 = As.reverse ++ .ref (q 0) :: rest) (hsz : ls.size = nL) (hw : (rest.map fun v => v.category).sum ≤ 8) (hR : rm.frames + 1 ≤ R.frames ∧ 8 + (maxL + 11) + rm.locals ≤ R.locals) (hcs : cells ≤ R.cells ∧ slots ≤ R.slots) (hdg : decode cc pc = .ok (.invokevirtual idx, 3))
    (kk : ∀ (H1 : Heap) (locs1 : List Loc), PP k E q σ' H1 → va_S (Aq q) H0 H1 locs1 → ex → W p l e R s m args below meth c H1 locs1 cells slots Q (F0 m (pc + 3) ls (.int v :: rest))) : W p l e R s m args below meth c H locs cells slots Q (F0 m pc ls st0) := by
  subst hst
  refine va_calli (va_runV (As := As) (rest := rest) S hM (cwV As.length S.2.2.2.2 hg rfl hrm.1 hrm.2 hd hR) (pre_V hK hP) rfl rfl hsz rfl (lv_room hw) hdg hcs) hS (fun _ _ h => h) (fun _ h => h) (fun r u t H1 locs1 ht _ hw hB _ _ hS1 => ?_)
  rw [hw.1]
  rw [ht] at hB
  exact kk H1 locs1 hB hS1 hw.2
theorem cl_WJ (hM : WJ l k E q σ y bytes maxL ret rm As w σ' ex) (hg : GoodIn lw_all (wsV own idx (RK k) y (ws_ y bytes maxL ret))) (hd : hdT y (RK k) As.length) (hrm : rm.cells = 0 ∧ rm.slots = 0) (S : Fx p m c cc nL s args own) (hK : KK E s) (hP : PP k E q σ H) (hS : va_S (Aq q) H0 H locs) (hst : st0 = As.reverse ++ .ref (q 0) :: rest) (hsz : ls.size = nL) (hw : (rest.map fun v => v.category).sum ≤ 8) (hR : rm.frames + 1 ≤ R.frames ∧ 8 + (maxL + 11) + rm.locals ≤ R.locals) (hcs : cells ≤ R.cells ∧ slots ≤ R.slots) (hdg : decode cc pc = .ok (.invokevirtual idx, 3))
    (kk : ∀ (H1 : Heap) (locs1 : List Loc), PP k E q σ' H1 → va_S (Aq q) H0 H1 locs1 → ex → W p l e R s m args below meth c H1 locs1 cells slots Q (F0 m (pc + 3) ls (.long w :: rest))) : W p l e R s m args below meth c H locs cells slots Q (F0 m pc ls st0) := by
  subst hst
  refine va_calll (va_runV (As := As) (rest := rest) S hM (cwV As.length S.2.2.2.2 hg rfl hrm.1 hrm.2 hd hR) (pre_V hK hP) rfl rfl hsz rfl (lv_room hw) hdg hcs) hS (fun _ _ h => h) (fun _ h => h) (fun r u t H1 locs1 ht _ hw hB _ _ hS1 => ?_)
  rw [hw.1]
  rw [ht] at hB
  exact kk H1 locs1 hB hS1 hw.2
theorem cl_WV (hM : WV l k E q σ y bytes maxL ret rm As σ' ex) (hg : GoodIn lw_all (wsV own idx (RK k) y (ws_ y bytes maxL ret))) (hd : hdT y (RK k) As.length) (hrm : rm.cells = 0 ∧ rm.slots = 0) (S : Fx p m c cc nL s args own) (hK : KK E s) (hP : PP k E q σ H) (hS : va_S (Aq q) H0 H locs) (hst : st0 = As.reverse ++ .ref (q 0) :: rest) (hsz : ls.size = nL) (hw : (rest.map fun v => v.category).sum ≤ 8) (hR : rm.frames + 1 ≤ R.frames ∧ 8 + (maxL + 11) + rm.locals ≤ R.locals) (hcs : cells ≤ R.cells ∧ slots ≤ R.slots) (hdg : decode cc pc = .ok (.invokevirtual idx, 3))
    (kk : ∀ (H1 : Heap) (locs1 : List Loc), PP k E q σ' H1 → va_S (Aq q) H0 H1 locs1 → ex → W p l e R s m args below meth c H1 locs1 cells slots Q (F0 m (pc + 3) ls rest)) : W p l e R s m args below meth c H locs cells slots Q (F0 m pc ls st0) := by
  subst hst
  refine va_callv (va_runV (As := As) (rest := rest) S hM (cwV As.length S.2.2.2.2 hg rfl hrm.1 hrm.2 hd hR) (pre_V hK hP) rfl rfl hsz rfl (lv_room hw) hdg hcs) hS (fun _ _ h => h) (fun _ h => h) (fun u t H1 locs1 ht _ hw hB _ _ hS1 => ?_)
  rw [ht] at hB
  exact kk H1 locs1 hB hS1 hw
end CL
/-! pure rows -/
def lp {α : Type} (f : Nat → α → α) : Nat → Nat → α → α
  | 0, _, a => a
  | n + 1, i, a => lp f n (i + 1) (f i a)
theorem lp_in {b : Int32} {T i n : Nat} (hb : b = nI T) (h2 : T < 2 ^ 31) (hi : i + (n + 1) = T) : ¬ b ≤ nI i := by
  rw [hb]; exact nI_ge (by omega) h2
theorem lp_out {b : Int32} {T i : Nat} (hb : b = nI T) (h2 : T < 2 ^ 31) (hi : i + 0 = T) : b ≤ nI i := by
  rw [hb]; exact nI_le (by omega) (by omega)
/-- a task's number, or -1 -/
def vo (x : Int32) : Prop := x = -1 ∨ vp_in x 16
theorem vo.in {x : Int32} (h : vo x) (hn : ¬ x = -1) : vp_in x 16 := Or.resolve_left h hn
theorem vo_1 : vo (-1) := Or.inl rfl
theorem vo_in {x : Int32} (h : vp_in x 16) : vo x := Or.inr h
theorem vo_nI {i : Nat} (h : i < 16) : vo (nI i) := Or.inr (vp_in_nI h (by decide))
theorem vo.ite {c : Prop} [Decidable c] {a b : Int32} (ha : vo a) (hb : vo b) : vo (if c then a else b) := by split <;> assumption
theorem in_ite {n : Nat} {c : Prop} [Decidable c] {a b : Int32} (ha : vp_in a n) (hb : vp_in b n) : vp_in (if c then a else b) n := by split <;> assumption
/-- what holds of a picture between calls: T tasks, C cores; CPUs are in range, weights are positive -/
def Inv (T C : Nat) (σ : St) : Prop := (∀ k : Nat, vp_in (σ.1 0 k) 8) ∧ σ.2.2 14 = nI T ∧ σ.2.2 13 = nI C ∧ ∀ k : Nat, k < T → ¬ σ.1 1 k < 1
theorem inv_sI {T C : Nat} {σ : St} {a i : Nat} {v : Int32} (ha : a ≠ 0 ∧ a ≠ 1) (h : Inv T C σ) : Inv T C (sI σ a i v) := by
  obtain ⟨h1, h2, h3, h4⟩ := h
  refine ⟨fun k => ?_, h2, h3, fun k hk => ?_⟩
  · show vp_in ((if 0 = a then upd (σ.1 a) i v else σ.1 0) k) 8
    rw [if_neg (fun e => ha.1 e.symm)]; exact h1 k
  · show ¬ (if 1 = a then upd (σ.1 a) i v else σ.1 1) k < 1
    rw [if_neg (fun e => ha.2 e.symm)]; exact h4 k hk
theorem inv_cpu {T C : Nat} {σ : St} {i : Nat} {v : Int32} (hv : vp_in v 8) (h : Inv T C σ) : Inv T C (sI σ 0 i v) := by
  obtain ⟨h1, h2, h3, h4⟩ := h
  refine ⟨fun k => ?_, h2, h3, fun k hk => ?_⟩
  · show vp_in (upd (σ.1 0) i v k) 8
    unfold upd
    split
    · exact hv
    · exact h1 k
  · exact h4 k hk
theorem inv_weight {T C : Nat} {σ : St} {i : Nat} {v : Int32} (hv : ¬ v < 1) (h : Inv T C σ) : Inv T C (sI σ 1 i v) := by
  obtain ⟨h1, h2, h3, h4⟩ := h
  refine ⟨fun k => h1 k, h2, h3, fun k hk => ?_⟩
  show ¬ upd (σ.1 1) i v k < 1
  unfold upd
  split
  · exact hv
  · exact h4 k hk
theorem inv_sJ {T C : Nat} {σ : St} {a i : Nat} {v : Int64} (h : Inv T C σ) : Inv T C (sJ σ a i v) := ⟨h.1, h.2.1, h.2.2.1, h.2.2.2⟩
theorem inv_sS {T C : Nat} {σ : St} {a : Nat} {v : Int32} (ha : a ≠ 13 ∧ a ≠ 14) (h : Inv T C σ) : Inv T C (sS σ a v) := by
  obtain ⟨h1, h2, h3, h4⟩ := h
  refine ⟨h1, ?_, ?_, h4⟩
  · show (if 14 = a then v else σ.2.2 14) = _
    rw [if_neg (fun e => ha.2 e.symm)]; exact h2
  · show (if 13 = a then v else σ.2.2 13) = _
    rw [if_neg (fun e => ha.1 e.symm)]; exact h3
theorem inv_ite {T C : Nat} {c : Prop} [Decidable c] {a b : St} (ha : Inv T C a) (hb : Inv T C b) : Inv T C (if c then a else b) := by split <;> assumption
theorem nb_1 : narrow .boolean (.int 1) = .int 1 := rfl
theorem nb_0 : narrow .boolean (.int 0) = .int 0 := rfl
theorem nb_ite {c : Prop} [Decidable c] {a b : Int32} (ha : narrow .boolean (.int a) = .int a) (hb : narrow .boolean (.int b) = .int b) : narrow .boolean (.int (if c then a else b)) = .int (if c then a else b) := by split <;> assumption
section CT
variable {p : Program} {l : Launch} {e : Env} {R : Room} {s : State} {m : MethodId} {args : Array Value} {below : List Frame} {meth : Method} {c : Code} {H : Heap} {locs : List Loc} {cells slots : Nat} {Q : State → Prop} {g : JFrame}
/-- both sides of a branch come to one place -/
theorem cutG (Kp : Array Slot → Heap → List Loc → List Value → Prop) (M : Nat) (k : ∀ (ls : Array Slot) (H1 : Heap) (locs1 : List Loc) (st : List Value), Kp ls H1 locs1 st → W p l e R s m args below meth c H1 locs1 cells slots Q (F0 m M ls st)) (h : (∀ (ls : Array Slot) (H1 : Heap) (locs1 : List Loc) (st : List Value), Kp ls H1 locs1 st → W p l e R s m args below meth c H1 locs1 cells slots Q (F0 m M ls st)) → W p l e R s m args below meth c H locs cells slots Q g) : W p l e R s m args below meth c H locs cells slots Q g := h k
end CT
theorem ex_eq {α : Type} {e : α} {P : α → Prop} {G : Prop} (h : P e → G) : (∃ y : α, y = e ∧ P y) → G := fun ⟨_, hy, hp⟩ => h (hy ▸ hp)
