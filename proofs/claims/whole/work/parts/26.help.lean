/-! the law's helpers: each makes one call of the class; a normal end is 0 with the answer in o, a refusal is its number, and nothing changed -/
abbrev wsH (y : MethodName) (cc : ByteArray) (n : Nat) (hh : List (Nat × Nat × Nat × Nat)) : List Cond := .codeWith y cc n (some .int) hh :: lw_all
theorem gw_H {own : String} {idx : Nat} {y : MethodName} {c : ByteArray} {n : Nat} {hh : List (Nat × Nat × Nat × Nat)} (h1 : Cond.methodLink own idx y ∈ lw_all) (h2 : Cond.static y ∈ lw_all) (h4 : Cond.initialized y.cls ∈ lw_all) (h5 : Cond.codeWith y c n (some .int) hh ∈ lw_all) : GoodIn lw_all (va_wsS own idx y (wsH y c n hh)) := by
  intro w h
  rcases List.mem_append.mp h with h | h
  · rcases List.mem_cons.mp h with e | h
    · rw [e]; exact lw_gd h1
    · rcases List.mem_cons.mp h with e | h
      · rw [e]; exact lw_gd h2
      · rcases List.mem_cons.mp h with e | h
        · rw [e]; exact lw_gd h4
        · cases h
  · rcases List.mem_cons.mp h with e | h
    · rw [e]; exact lw_gd h5
    · exact lw_gd h
theorem Met.ofH {l : Launch} {y : MethodName} {cc : ByteArray} {n : Nat} {hh : List (Nat × Nat × Nat × Nat)} {rm : Room} {Pc : State → Prop} {Qc : Array Value → State → Outcome → State → Prop} {free : Addr → Prop} {mc ms : Nat} {Vs : List Value} (hy : plainName y.cls = true) (hn : (lg_sl Vs).length ≤ n)
    (body : ∀ (p : Program) (e : Env) (s : State) (m : MethodId) (args : Array Value) (below : List Frame) (meth : Method) (c : Code) (ls : Array Slot) (Q : State → Prop), Bd p s m args meth c y.cls cc n (some .int) → c.exceptionTable.toList = tableOf hh → Q = MQ below Qc args s mc ms free → Pc s → lv_has ls n (lv_args 0 Vs) →
      W p l e rm s m args below meth c s.heap [] 0 0 Q (F0 m 0 ls [])) : Met l y (wsH y cc n hh) rm (va_Pc Vs Pc) Qc mc ms free := by
  refine MetFree.of_bodyS (code := cc) (maxLocals := n) (ret := some .int) hy ?_ ?_
  · intro args s m h hn
    obtain ⟨m9, meth, c, hn9, h1, h2, h3, h4, -, h5, h6, -⟩ := Cond.codeWith_spec (atoms_spec (ws := wsH y cc n hh) h _ List.mem_cons_self)
    cases hn.symm.trans hn9
    exact ⟨meth, c, h1, h2, h3, h4, h5, h6⟩
  · intro p e s m args below meth c s₁ B hml hP _
    obtain ⟨rfl, hP⟩ := hP
    have hts := atoms_spec (ws := wsH y cc n hh) B.pre
    have hl := lv_entry Vs (n := n) hn
    have K : W p l e rm s m Vs.toArray below meth c s.heap [] 0 0 (MQ below Qc Vs.toArray s mc ms free) (entryFrame m Vs.toArray n) := by
      rw [lg_entry_eq]
      exact body p e s m Vs.toArray below meth c _ _ ⟨B.exec, B.bytes, hml, B.returns, B.notSynchronized, findClass_of_methodNamed B.named, fun w h => hts w (List.mem_cons_of_mem _ h)⟩ (vx_table (x := y) B (hts _ List.mem_cons_self)) rfl hP hl
    have hh0 : s₁.heap = s.heap := by rw [B.state]; rfl
    obtain ⟨t, a1, o, b1, b2, b3⟩ := K s₁ hh0 (Stand.of_body B)
    exact ⟨t, o, a1, b1, b2, b3⟩
/-- a long array of one, at o -/
def OJ (E : Ev) (o : Nat) (v : Int64) (H : Heap) : Prop := ∃ f : Nat → Int64, f 0 = v ∧ va_P E.1 vwCl [(o, .inl (E.2.2.1, 1, .inr (.inl f)))] H
def Ao (q : Nat → Nat) (o : Nat) : Nat → Prop := fun a => Aq q a ∨ a = o
theorem OJ.kept {E : Ev} {o : Nat} {v : Int64} {H H1 : Heap} (h : OJ E o v H) (hk : H1[o]? = H[o]?) : OJ E o v H1 := by
  obtain ⟨f, hf, hP⟩ := h
  exact ⟨f, hf, hP.kept (fun k q hq => by
    match k, hq with
    | 0, hq => cases hq; exact hk
    | k + 1, hq => simp at hq)⟩
theorem OJ.lt {E : Ev} {o : Nat} {v : Int64} {H : Heap} (h : OJ E o v H) : o < H.size := by
  obtain ⟨f, hf, hP⟩ := h
  exact vx_lt hP (k := 0) rfl
theorem keyo {E : Ev} {q : Nat → Nat} {σ : St} {o : Nat} {e : va_E} (j : Nat) (x : Nat × va_E) (h : (((q 0, ob 0 q σ.2.2) :: wr E q σ) ++ [(o, e)])[j]? = some x) : (j < 14 ∧ x.1 = q j) ∨ (j = 14 ∧ x.1 = o) := by
  match j, h with
  | 0, h => cases h; exact Or.inl ⟨by decide, rfl⟩
  | 1, h => cases h; exact Or.inl ⟨by decide, rfl⟩
  | 2, h => cases h; exact Or.inl ⟨by decide, rfl⟩
  | 3, h => cases h; exact Or.inl ⟨by decide, rfl⟩
  | 4, h => cases h; exact Or.inl ⟨by decide, rfl⟩
  | 5, h => cases h; exact Or.inl ⟨by decide, rfl⟩
  | 6, h => cases h; exact Or.inl ⟨by decide, rfl⟩
  | 7, h => cases h; exact Or.inl ⟨by decide, rfl⟩
  | 8, h => cases h; exact Or.inl ⟨by decide, rfl⟩
  | 9, h => cases h; exact Or.inl ⟨by decide, rfl⟩
  | 10, h => cases h; exact Or.inl ⟨by decide, rfl⟩
  | 11, h => cases h; exact Or.inl ⟨by decide, rfl⟩
  | 12, h => cases h; exact Or.inl ⟨by decide, rfl⟩
  | 13, h => cases h; exact Or.inl ⟨by decide, rfl⟩
  | 14, h => cases h; exact Or.inr ⟨rfl, rfl⟩
  | j + 15, h => simp [wr] at h
theorem Do {E : Ev} {q : Nat → Nat} {σ : St} {o : Nat} {e : va_E} (hq : Dq q) (ho : ¬ Aq q o) : va_D (Ao q o) (((q 0, ob 0 q σ.2.2) :: wr E q σ) ++ [(o, e)]) := by
  refine ⟨fun i j x y hi hj hxy => ?_, fun j x hj => ?_⟩
  · rcases keyo i x hi with ⟨a1, a2⟩ | ⟨a1, a2⟩ <;> rcases keyo j y hj with ⟨b1, b2⟩ | ⟨b1, b2⟩
    · exact hq i j a1 b1 (by rw [← a2, ← b2]; exact hxy)
    · exact absurd ⟨i, a1, by rw [← b2, ← hxy, a2]⟩ ho
    · exact absurd ⟨j, b1, by rw [← a2, hxy, b2]⟩ ho
    · rw [a1, b1]
  · rcases keyo j x hj with ⟨a1, a2⟩ | ⟨a1, a2⟩
    · exact Or.inl ⟨j, a1, a2⟩
    · exact Or.inr a2
def NC (U : State) : Prop := va_Nc xISE xIAE U ∧ va_Nc xIOO xIAE U
theorem NC.moved {u U : State} (hvm : u.vm.Alike U.vm) (h : NC u) : NC U := ⟨h.1.moved hvm, h.2.moved hvm⟩
section HF
variable (l : Launch) (E : Ev) (q : Nat → Nat) (σ : St) (o : Nat) (y : MethodName) (cc : ByteArray) (n : Nat) (hh : List (Nat × Nat × Nat × Nat)) (rm : Room) (As : List Value)
def preN : Array Value → State → Prop := va_Pc (.ref (q 0) :: (As ++ [.ref o])) (fun U => (PP 0 E q σ U.heap ∧ ∃ w, OJ E o w U.heap) ∧ KK E U)
def preT : Array Value → State → Prop := va_Pc (.ref (q 0) :: (As ++ [.ref o])) (fun U => PP 0 E q σ U.heap ∧ KK E U ∧ XF q U ∧ NC U)
def HN (v : Int64) (σ' : St) (ex : Prop) : Prop := Met l y (wsH y cc n hh) rm (preN E q σ o As) (va_Qi (fun w (_ : Unit) => w = 0 ∧ ex) (fun _ t => PP 0 E q σ' t.heap ∧ OJ E o v t.heap) (Ao q o)) 0 0 (Ao q o)
def HT (r : Int32) : Prop := Met l y (wsH y cc n hh) rm (preT E q σ o As) (va_Qi (fun w (_ : Unit) => w = r) (fun _ _ => True) (fun _ => False)) 1 6 (fun _ => False)
end HF
section HR
variable {p : Program} {l : Launch} {e : Env} {R : Room} {s : State} {m : MethodId} {args : Array Value} {below : List Frame} {meth : Method} {c : Code} {H H0 : Heap} {locs : List Loc} {cells slots : Nat} {Q : State → Prop}
variable {cc bytes : ByteArray} {pc idx nL maxL : Nat} {ls : Array Slot} {rest st0 As : List Value} {E : Ev} {q : Nat → Nat} {σ σ' : St} {y : MethodName} {ret : Option FieldType} {rm : Room} {own : String} {code v r : Int32} {X2 : String} {w x : Int64} {ex : Prop} {o : Nat}
theorem oj_last (hx : p.tables.exec = Jvm.exec) (hb : c.code = cc) (hK : KK E s) (hq : Dq q) (ho : ¬ Aq q o) (hP : PP 0 E q σ H) (hO : OJ E o w H) (hS : va_S (Ao q o) H0 H locs) (hdg : decode cc pc = .ok (.lastore, 1))
    (kk : ∀ (H1 : Heap) (locs1 : List Loc), PP 0 E q σ H1 → OJ E o x H1 → va_S (Ao q o) H0 H1 locs1 → W p l e R s m args below meth c H1 locs1 cells slots Q (F0 m (pc + 1) ls rest)) : W p l e R s m args below meth c H locs cells slots Q (F0 m pc ls (.long x :: .int 0 :: .ref o :: rest)) := by
  obtain ⟨f, hf, hO⟩ := hO
  have hC : va_P E.1 vwCl (((q 0, ob 0 q σ.2.2) :: wr E q σ) ++ [(o, .inl (E.2.2.1, 1, .inr (.inl f)))]) H := va_P.app (w1 := (q 0, ob 0 q σ.2.2) :: wr E q σ) hP hO
  exact va_last hx hb hK hC (Do hq ho) hS 14 1 rfl rfl (by unfold vp_in; decide) hdg (fun H1 locs1 h1 _ h3 => kk H1 locs1 (h1.sub [0, 1, 2, 3, 4, 5, 6, 7, 8, 9, 10, 11, 12, 13] rfl) ⟨_, rfl, h1.sub [14] rfl⟩ h3)
theorem rt_HN (hQ : Q = MQ below (va_Qi (fun w (_ : Unit) => w = 0 ∧ ex) (fun _ t => PP 0 E q σ' t.heap ∧ OJ E o x t.heap) (Ao q o)) args s 0 0 (Ao q o)) (hx : p.tables.exec = Jvm.exec) (hb : c.code = cc) (hr : meth.sig.returnType = some .int) (hlocks : meth.locks = false) (hP : PP 0 E q σ' H) (hO : OJ E o x H) (hS : va_S (Ao q o) s.heap H locs) (hv : ex) (hdg : decode cc pc = .ok (.ireturn, 1)) : W p l e R s m args below meth c H locs 0 0 Q (F0 m pc ls [.int 0]) :=
  hQ ▸ W.iret hx hb hr (fun t ht _ => ⟨⟨0, (), rfl, ⟨rfl, hv⟩, by show PP _ _ _ _ t.heap ∧ OJ _ _ _ t.heap; rw [ht]; exact ⟨hP, hO⟩⟩, hS.F ht⟩) hS.2.2 hdg hlocks
theorem rt_HT (hQ : Q = MQ below (va_Qi (fun w (_ : Unit) => w = r) (fun _ _ => True) (fun _ => False)) args s 1 6 (fun _ => False)) (hx : p.tables.exec = Jvm.exec) (hb : c.code = cc) (hr : meth.sig.returnType = some .int) (hlocks : meth.locks = false) (hz : s.heap.size ≤ H.size) (hk : ∀ a : Nat, a < s.heap.size → H[a]? = s.heap[a]?) (hv : v = r) (hdg : decode cc pc = .ok (.ireturn, 1)) : W p l e R s m args below meth c H [] 1 6 Q (F0 m pc ls [.int v]) :=
  hQ ▸ W.iret hx hb hr (fun t ht _ => ⟨⟨v, (), rfl, hv, trivial⟩, by rw [ht]; exact hz, fun a h1 _ => by rw [ht]; exact hk a h1⟩) (fun _ h => nomatch h) hdg hlocks
/-- a call of the class that throws -/
theorem hc_V (hM : TX l E q σ y bytes maxL ret rm As X2 code) (hg : GoodIn lw_all (wsV own idx (RK 0) y (ws_ y bytes maxL ret))) (hd : hdT y (RK 0) As.length) (hrm : rm.cells = 1 ∧ rm.slots = 6) (S : Fx p m c cc nL s args own) (hK : KK E s) (hP : PP 0 E q σ s.heap) (hX : XF q s) (hst : st0 = As.reverse ++ .ref (q 0) :: rest) (hsz : ls.size = nL) (hw : (rest.map fun v => v.category).sum ≤ 8) (hR : rm.frames + 1 ≤ R.frames ∧ 8 + (maxL + 11) + rm.locals ≤ R.locals) (hcs : 0 + 1 ≤ R.cells ∧ 0 + 6 ≤ R.slots) (hdg : decode cc pc = .ok (.invokevirtual idx, 3))
    (kx : ∀ (H1 : Heap) (q9 : Addr) (ce : Cell), s.heap.size ≤ H1.size → (∀ a : Nat, a < s.heap.size → H1[a]? = s.heap[a]?) → H1[q9]? = some ce → ce.vm = .none → s.vm.findClass (xn X2 code) = some ce.cls → vx_W p l e R s m args below meth c H1 [] 1 6 Q (F0 m pc ls rest) q9) : W p l e R s m args below meth c s.heap [] 0 0 Q (F0 m pc ls st0) := by
  subst hst
  intro T hT X
  rcases vx_runV (As := As) (rest := rest) S hM (cwV As.length S.2.2.2.2 hg rfl hrm.1 hrm.2 hd hR) (pre_X hK hP hX) rfl rfl hsz rfl (lv_room hw) hdg hcs T hT X with ⟨v, st₀, t, T', L, h0, X', hL, e1, e2, hF, st⟩ | ⟨q9, st₀, t, T', L, E9, ce, h0, X', hL, e1, e2, ⟨u, -, hE, hF⟩, hce, hcv, hcl, st⟩
  · exact hF.elim
  · have X2 := Stand.forget X' (fun z h => (hL z h).elim)
    have hz := hF.1
    have hk := hF.2
    rw [h0] at hz hk
    obtain ⟨t2, a1, b1⟩ := kx T'.heap q9 ce (by rw [e1]; exact hz) (fun a ha => by rw [e1]; exact hk a ha id) (by rw [e1]; exact hce) hcv (by rw [← hE]; exact hcl) T' rfl X2
    exact ⟨t2, st.trans a1, b1⟩
end HR
theorem xn_1 (X2 : String) : xn X2 1 = xIAE := rfl
theorem xn_2 (X2 : String) : xn X2 2 = X2 := rfl
theorem er_reset (T C : Nat) (σ : St) (n9 : Int32) : (e_X0_reset T C σ n9) = 0 ∨ (e_X0_reset T C σ n9) = 1 := by
  unfold e_X0_reset
  repeat' split
  all_goals first | exact Or.inl rfl | exact Or.inr rfl
def rh_reset : Room := { frames := 2, cells := 0, slots := 0, locals := 44 }
set_option maxHeartbeats 400000 in
theorem h_reset (l : Launch) (E : Ev) (q : Nat → Nat) (hq : Dq q) {T C : Nat} (hT : T ≤ 16) (hC : 1 ≤ C ∧ C ≤ 4) (σ : St) (hI : Inv T C σ) (o : Nat) (ho : ¬ Aq q o) (n9 : Int32) (he : (e_X0_reset T C σ n9) = 0) : HN l E q σ o yL_reset cL_reset 4 [(0, 9, 12, 13)] rh_reset [.int n9] (Int32.toInt64 (f_X0_reset T C σ n9)) (g_X0_reset T C σ n9) True := by
  refine Met.ofH (by decide) (Nat.le_of_ble_eq_true rfl) (fun p e s m args below meth c ls Q B htab hQ hPK hl => ?_)
  obtain ⟨hx, hb, hml, hr, hlocks, hown, hts⟩ := B
  have S0 : Fx p m c cL_reset 4 s args RL := ⟨hx, hb, hml, hown, hts⟩
  obtain ⟨⟨hP, w0, hO⟩, hK⟩ := hPK
  have hl : lv_has ls 4 [(0, .ref (q 0)), (1, .int n9), (2, .ref o)] := hl
  refine lv_aload_n hx hb dL_reset_0 rfl (lv_at hl 2 rfl) ?_
  refine lv_iconst (v := 0) hx hb dL_reset_1 (by decide) ?_
  refine lv_aload_n hx hb dL_reset_2 rfl (lv_at hl 0 rfl) ?_
  refine lv_iload_n hx hb dL_reset_3 rfl (lv_at hl 1 rfl) ?_
  refine gl_WI (A := Ao q o) (k_X0_reset l E q hq hT hC σ hI n9 he) gw_L_7 hd_X0_reset ⟨rfl, rfl⟩ S0 hK hP va_S.rf (fun a h => Or.inl h) (rest := [.int 0, .ref o]) rfl hl.1 (Nat.le_of_ble_eq_true rfl) ⟨(Nat.le_of_ble_eq_true rfl), (Nat.le_of_ble_eq_true rfl)⟩ ⟨Nat.zero_le _, Nat.zero_le _⟩ dL_reset_4 (fun H1 locs1 hP hS hz hk hex => ?_)
  have hO := hO.kept (hk o hO.lt ho)
  refine lv_i2l (v := Int32.toInt64 (f_X0_reset T C σ n9)) hx hb dL_reset_7 rfl ?_
  refine oj_last hx hb hK hq ho hP hO hS dL_reset_8 (fun H2 locs2 hP hO hS => ?_)
  refine lv_goto (tgt := 15) hx hb dL_reset_9 rfl ?_
  refine lv_iconst (v := 0) hx hb dL_reset_15 (by decide) ?_
  exact rt_HN hQ hx hb hr hlocks hP hO hS hex dL_reset_16
def rx_reset : Room := { frames := 7, cells := 1, slots := 6, locals := 104 }
set_option maxHeartbeats 400000 in
theorem x_reset (l : Launch) (hst : l.stackTraces = false) (E : Ev) (q : Nat → Nat) (hq : Dq q) {T C : Nat} (hT : T ≤ 16) (hC : 1 ≤ C ∧ C ≤ 4) (σ : St) (hI : Inv T C σ) (o : Nat) (n9 : Int32) (he : ¬ (e_X0_reset T C σ n9) = 0) : HT l E q σ o yL_reset cL_reset 4 [(0, 9, 12, 13)] rx_reset [.int n9] (e_X0_reset T C σ n9) := by
  refine Met.ofH (by decide) (Nat.le_of_ble_eq_true rfl) (fun p e s m args below meth c ls Q B htab hQ hPK hl => ?_)
  obtain ⟨hx, hb, hml, hr, hlocks, hown, hts⟩ := B
  have S0 : Fx p m c cL_reset 4 s args RL := ⟨hx, hb, hml, hown, hts⟩
  obtain ⟨hP, hK, hX, hN⟩ := hPK
  have hl : lv_has ls 4 [(0, .ref (q 0)), (1, .int n9), (2, .ref o)] := hl
  refine lv_aload_n hx hb dL_reset_0 rfl (lv_at hl 2 rfl) ?_
  refine lv_iconst (v := 0) hx hb dL_reset_1 (by decide) ?_
  refine lv_aload_n hx hb dL_reset_2 rfl (lv_at hl 0 rfl) ?_
  refine lv_iload_n hx hb dL_reset_3 rfl (lv_at hl 1 rfl) ?_
  refine hc_V (t_X0_reset l hst E q hq hT hC σ hI n9 he) gw_L_7 hd_X0_reset ⟨rfl, rfl⟩ S0 hK hP hX (rest := [.int 0, .ref o]) rfl hl.1 (Nat.le_of_ble_eq_true rfl) ⟨(Nat.le_of_ble_eq_true rfl), (Nat.le_of_ble_eq_true rfl)⟩ ⟨(Nat.le_of_ble_eq_true rfl), (Nat.le_of_ble_eq_true rfl)⟩ dL_reset_4 (fun H1 q9 ce hz hk hce hcv hcl => ?_)
  have hcode := (er_reset T C σ n9).resolve_left he
  have hcs : (Cond.castable xIAE xIAE).before args s = true := (hX.2.1 (.castable xIAE xIAE) (by decide +kernel)).use rfl
  refine vx_catch (own := RL) (name := xIAE) (E := xIAE) hown [] ⟨0, 9, 12, 13⟩ [] htab (fun _ h => nomatch h) (by decide) (by decide) (hts _ cl_L_13) hcs hce hcv (by rw [hcode] at hcl; exact hcl) ?_
  show W p l e _ s m args below meth c H1 [] 1 6 Q (F0 m 12 ls [.ref q9])
  refine lv_astore_n (i := 3) hx hb dL_reset_12 rfl hl (by decide) rfl (fun ls hl => ?_)
  refine lv_iconst (v := 1) hx hb dL_reset_13 (by decide) ?_
  exact rt_HT hQ hx hb hr hlocks hz hk hcode.symm dL_reset_14
theorem er_tick (T C : Nat) (σ : St) (t9 : Int32) : (e_X0_tick T C σ t9) = 0 ∨ (e_X0_tick T C σ t9) = 1 := by
  unfold e_X0_tick
  repeat' split
  all_goals first | exact Or.inl rfl | exact Or.inr rfl
def rh_tick : Room := { frames := 8, cells := 0, slots := 0, locals := 183 }
set_option maxHeartbeats 400000 in
theorem h_tick (l : Launch) (E : Ev) (q : Nat → Nat) (hq : Dq q) {T C : Nat} (hT : T ≤ 16) (hC : 1 ≤ C ∧ C ≤ 4) (σ : St) (hI : Inv T C σ) (o : Nat) (ho : ¬ Aq q o) (t9 : Int32) (he : (e_X0_tick T C σ t9) = 0) : HN l E q σ o yL_tick cL_tick 4 [(0, 9, 12, 13)] rh_tick [.int t9] (Int32.toInt64 (f_X0_tick T C σ t9)) (g_X0_tick T C σ t9) (Inv T C (g_X0_tick T C σ t9) ∧ True) := by
  refine Met.ofH (by decide) (Nat.le_of_ble_eq_true rfl) (fun p e s m args below meth c ls Q B htab hQ hPK hl => ?_)
  obtain ⟨hx, hb, hml, hr, hlocks, hown, hts⟩ := B
  have S0 : Fx p m c cL_tick 4 s args RL := ⟨hx, hb, hml, hown, hts⟩
  obtain ⟨⟨hP, w0, hO⟩, hK⟩ := hPK
  have hl : lv_has ls 4 [(0, .ref (q 0)), (1, .int t9), (2, .ref o)] := hl
  refine lv_aload_n hx hb dL_tick_0 rfl (lv_at hl 2 rfl) ?_
  refine lv_iconst (v := 0) hx hb dL_tick_1 (by decide) ?_
  refine lv_aload_n hx hb dL_tick_2 rfl (lv_at hl 0 rfl) ?_
  refine lv_iload_n hx hb dL_tick_3 rfl (lv_at hl 1 rfl) ?_
  refine gl_WI (A := Ao q o) (k_X0_tick l E q hq hT hC σ hI t9 he) gw_L_15 hd_X0_tick ⟨rfl, rfl⟩ S0 hK hP va_S.rf (fun a h => Or.inl h) (rest := [.int 0, .ref o]) rfl hl.1 (Nat.le_of_ble_eq_true rfl) ⟨(Nat.le_of_ble_eq_true rfl), (Nat.le_of_ble_eq_true rfl)⟩ ⟨Nat.zero_le _, Nat.zero_le _⟩ dL_tick_4 (fun H1 locs1 hP hS hz hk hex => ?_)
  have hO := hO.kept (hk o hO.lt ho)
  refine lv_i2l (v := Int32.toInt64 (f_X0_tick T C σ t9)) hx hb dL_tick_7 rfl ?_
  refine oj_last hx hb hK hq ho hP hO hS dL_tick_8 (fun H2 locs2 hP hO hS => ?_)
  refine lv_goto (tgt := 15) hx hb dL_tick_9 rfl ?_
  refine lv_iconst (v := 0) hx hb dL_tick_15 (by decide) ?_
  exact rt_HN hQ hx hb hr hlocks hP hO hS hex dL_tick_16
def rx_tick : Room := { frames := 8, cells := 1, slots := 6, locals := 183 }
set_option maxHeartbeats 400000 in
theorem x_tick (l : Launch) (hst : l.stackTraces = false) (E : Ev) (q : Nat → Nat) (hq : Dq q) {T C : Nat} (hT : T ≤ 16) (hC : 1 ≤ C ∧ C ≤ 4) (σ : St) (hI : Inv T C σ) (o : Nat) (t9 : Int32) (he : ¬ (e_X0_tick T C σ t9) = 0) : HT l E q σ o yL_tick cL_tick 4 [(0, 9, 12, 13)] rx_tick [.int t9] (e_X0_tick T C σ t9) := by
  refine Met.ofH (by decide) (Nat.le_of_ble_eq_true rfl) (fun p e s m args below meth c ls Q B htab hQ hPK hl => ?_)
  obtain ⟨hx, hb, hml, hr, hlocks, hown, hts⟩ := B
  have S0 : Fx p m c cL_tick 4 s args RL := ⟨hx, hb, hml, hown, hts⟩
  obtain ⟨hP, hK, hX, hN⟩ := hPK
  have hl : lv_has ls 4 [(0, .ref (q 0)), (1, .int t9), (2, .ref o)] := hl
  refine lv_aload_n hx hb dL_tick_0 rfl (lv_at hl 2 rfl) ?_
  refine lv_iconst (v := 0) hx hb dL_tick_1 (by decide) ?_
  refine lv_aload_n hx hb dL_tick_2 rfl (lv_at hl 0 rfl) ?_
  refine lv_iload_n hx hb dL_tick_3 rfl (lv_at hl 1 rfl) ?_
  refine hc_V (t_X0_tick l hst E q hq hT hC σ hI t9 he) gw_L_15 hd_X0_tick ⟨rfl, rfl⟩ S0 hK hP hX (rest := [.int 0, .ref o]) rfl hl.1 (Nat.le_of_ble_eq_true rfl) ⟨(Nat.le_of_ble_eq_true rfl), (Nat.le_of_ble_eq_true rfl)⟩ ⟨(Nat.le_of_ble_eq_true rfl), (Nat.le_of_ble_eq_true rfl)⟩ dL_tick_4 (fun H1 q9 ce hz hk hce hcv hcl => ?_)
  have hcode := (er_tick T C σ t9).resolve_left he
  have hcs : (Cond.castable xIAE xIAE).before args s = true := (hX.2.1 (.castable xIAE xIAE) (by decide +kernel)).use rfl
  refine vx_catch (own := RL) (name := xIAE) (E := xIAE) hown [] ⟨0, 9, 12, 13⟩ [] htab (fun _ h => nomatch h) (by decide) (by decide) (hts _ cl_L_13) hcs hce hcv (by rw [hcode] at hcl; exact hcl) ?_
  show W p l e _ s m args below meth c H1 [] 1 6 Q (F0 m 12 ls [.ref q9])
  refine lv_astore_n (i := 3) hx hb dL_tick_12 rfl hl (by decide) rfl (fun ls hl => ?_)
  refine lv_iconst (v := 1) hx hb dL_tick_13 (by decide) ?_
  exact rt_HT hQ hx hb hr hlocks hz hk hcode.symm dL_tick_14
theorem er_createTask (T C : Nat) (σ : St) (c9 : Int32) (w9 : Int32) (k9 : Int32) : (e_X0_createTask T C σ c9 w9 k9) = 0 ∨ (e_X0_createTask T C σ c9 w9 k9) = 1 ∨ (e_X0_createTask T C σ c9 w9 k9) = 2 := by
  unfold e_X0_createTask
  repeat' split
  all_goals first | exact Or.inl rfl | exact Or.inr (Or.inl rfl) | exact Or.inr (Or.inr rfl)
def rh_createTask : Room := { frames := 3, cells := 0, slots := 0, locals := 68 }
set_option maxHeartbeats 400000 in
theorem h_createTask (l : Launch) (E : Ev) (q : Nat → Nat) (hq : Dq q) {T C : Nat} (hT : T ≤ 16) (hC : 1 ≤ C ∧ C ≤ 4) (σ : St) (hI : Inv T C σ) (o : Nat) (ho : ¬ Aq q o) (c9 : Int32) (w9 : Int32) (k9 : Int32) (he : (e_X0_createTask T C σ c9 w9 k9) = 0) : HN l E q σ o yL_createTask cL_createTask 6 [(0, 12, 15, 13), (0, 12, 19, 22)] rh_createTask [.int c9, .int w9, .int k9] (Int32.toInt64 (f_X0_createTask T C σ c9 w9 k9)) (g_X0_createTask T C σ c9 w9 k9) True := by
  refine Met.ofH (by decide) (Nat.le_of_ble_eq_true rfl) (fun p e s m args below meth c ls Q B htab hQ hPK hl => ?_)
  obtain ⟨hx, hb, hml, hr, hlocks, hown, hts⟩ := B
  have S0 : Fx p m c cL_createTask 6 s args RL := ⟨hx, hb, hml, hown, hts⟩
  obtain ⟨⟨hP, w0, hO⟩, hK⟩ := hPK
  have hl : lv_has ls 6 [(0, .ref (q 0)), (1, .int c9), (2, .int w9), (3, .int k9), (4, .ref o)] := hl
  refine lv_aload hx hb dL_createTask_0 (lv_at hl 4 rfl) ?_
  refine lv_iconst (v := 0) hx hb dL_createTask_2 (by decide) ?_
  refine lv_aload_n hx hb dL_createTask_3 rfl (lv_at hl 0 rfl) ?_
  refine lv_iload_n hx hb dL_createTask_4 rfl (lv_at hl 1 rfl) ?_
  refine lv_iload_n hx hb dL_createTask_5 rfl (lv_at hl 2 rfl) ?_
  refine lv_iload_n hx hb dL_createTask_6 rfl (lv_at hl 3 rfl) ?_
  refine gl_WI (A := Ao q o) (k_X0_createTask l E q hq hT hC σ hI c9 w9 k9 he) gw_L_18 hd_X0_createTask ⟨rfl, rfl⟩ S0 hK hP va_S.rf (fun a h => Or.inl h) (rest := [.int 0, .ref o]) rfl hl.1 (Nat.le_of_ble_eq_true rfl) ⟨(Nat.le_of_ble_eq_true rfl), (Nat.le_of_ble_eq_true rfl)⟩ ⟨Nat.zero_le _, Nat.zero_le _⟩ dL_createTask_7 (fun H1 locs1 hP hS hz hk hex => ?_)
  have hO := hO.kept (hk o hO.lt ho)
  refine lv_i2l (v := Int32.toInt64 (f_X0_createTask T C σ c9 w9 k9)) hx hb dL_createTask_10 rfl ?_
  refine oj_last hx hb hK hq ho hP hO hS dL_createTask_11 (fun H2 locs2 hP hO hS => ?_)
  refine lv_goto (tgt := 23) hx hb dL_createTask_12 rfl ?_
  refine lv_iconst (v := 0) hx hb dL_createTask_23 (by decide) ?_
  exact rt_HN hQ hx hb hr hlocks hP hO hS hex dL_createTask_24
def rx_createTask : Room := { frames := 8, cells := 1, slots := 6, locals := 127 }
set_option maxHeartbeats 400000 in
theorem x_createTask (l : Launch) (hst : l.stackTraces = false) (E : Ev) (q : Nat → Nat) (hq : Dq q) {T C : Nat} (hT : T ≤ 16) (hC : 1 ≤ C ∧ C ≤ 4) (σ : St) (hI : Inv T C σ) (o : Nat) (c9 : Int32) (w9 : Int32) (k9 : Int32) (he : ¬ (e_X0_createTask T C σ c9 w9 k9) = 0) : HT l E q σ o yL_createTask cL_createTask 6 [(0, 12, 15, 13), (0, 12, 19, 22)] rx_createTask [.int c9, .int w9, .int k9] (e_X0_createTask T C σ c9 w9 k9) := by
  refine Met.ofH (by decide) (Nat.le_of_ble_eq_true rfl) (fun p e s m args below meth c ls Q B htab hQ hPK hl => ?_)
  obtain ⟨hx, hb, hml, hr, hlocks, hown, hts⟩ := B
  have S0 : Fx p m c cL_createTask 6 s args RL := ⟨hx, hb, hml, hown, hts⟩
  obtain ⟨hP, hK, hX, hN⟩ := hPK
  have hl : lv_has ls 6 [(0, .ref (q 0)), (1, .int c9), (2, .int w9), (3, .int k9), (4, .ref o)] := hl
  refine lv_aload hx hb dL_createTask_0 (lv_at hl 4 rfl) ?_
  refine lv_iconst (v := 0) hx hb dL_createTask_2 (by decide) ?_
  refine lv_aload_n hx hb dL_createTask_3 rfl (lv_at hl 0 rfl) ?_
  refine lv_iload_n hx hb dL_createTask_4 rfl (lv_at hl 1 rfl) ?_
  refine lv_iload_n hx hb dL_createTask_5 rfl (lv_at hl 2 rfl) ?_
  refine lv_iload_n hx hb dL_createTask_6 rfl (lv_at hl 3 rfl) ?_
  refine hc_V (t_X0_createTask l hst E q hq hT hC σ hI c9 w9 k9 he) gw_L_18 hd_X0_createTask ⟨rfl, rfl⟩ S0 hK hP hX (rest := [.int 0, .ref o]) rfl hl.1 (Nat.le_of_ble_eq_true rfl) ⟨(Nat.le_of_ble_eq_true rfl), (Nat.le_of_ble_eq_true rfl)⟩ ⟨(Nat.le_of_ble_eq_true rfl), (Nat.le_of_ble_eq_true rfl)⟩ dL_createTask_7 (fun H1 q9 ce hz hk hce hcv hcl => ?_)
  rcases er_createTask T C σ c9 w9 k9 with hcode | hcode | hcode
  · exact absurd hcode he
  · have hcs : (Cond.castable xIAE xIAE).before args s = true := (hX.2.1 (.castable xIAE xIAE) (by decide +kernel)).use rfl
    refine vx_catch (own := RL) (name := xIAE) (E := xIAE) hown [] ⟨0, 12, 15, 13⟩ [⟨0, 12, 19, 22⟩] htab (fun _ h => nomatch h) (by decide) (by decide) (hts _ cl_L_13) hcs hce hcv (by rw [hcode] at hcl; exact hcl) ?_
    show W p l e _ s m args below meth c H1 [] 1 6 Q (F0 m 15 ls [.ref q9])
    refine lv_astore hx hb dL_createTask_15 hl (by decide) rfl (fun ls hl => ?_)
    refine lv_iconst (v := 1) hx hb dL_createTask_17 (by decide) ?_
    exact rt_HT hQ hx hb hr hlocks hz hk hcode.symm dL_createTask_18
  · have hcs : (Cond.castable xISE xISE).before args s = true := (hX.2.1 (.castable xISE xISE) (by decide +kernel)).use rfl
    refine vx_catch (own := RL) (name := xISE) (E := xISE) hown [⟨0, 12, 15, 13⟩] ⟨0, 12, 19, 22⟩ [] htab (fun z hz9 => by rw [List.mem_singleton.mp hz9]; exact Or.inr ⟨by decide, xIAE, hts _ cl_L_13, hN.1⟩) (by decide) (by decide) (hts _ cl_L_22) hcs hce hcv (by rw [hcode] at hcl; exact hcl) ?_
    show W p l e _ s m args below meth c H1 [] 1 6 Q (F0 m 19 ls [.ref q9])
    refine lv_astore hx hb dL_createTask_19 hl (by decide) rfl (fun ls hl => ?_)
    refine lv_iconst (v := 2) hx hb dL_createTask_21 (by decide) ?_
    exact rt_HT hQ hx hb hr hlocks hz hk hcode.symm dL_createTask_22
theorem er_sleep (T C : Nat) (σ : St) (t : Int32) : (e_X0_sleep T C σ t) = 0 ∨ (e_X0_sleep T C σ t) = 1 ∨ (e_X0_sleep T C σ t) = 2 := by
  unfold e_X0_sleep
  repeat' split
  all_goals first | exact Or.inl rfl | exact Or.inr (Or.inl rfl) | exact Or.inr (Or.inr rfl)
def rh_sleep : Room := { frames := 2, cells := 0, slots := 0, locals := 44 }
set_option maxHeartbeats 400000 in
theorem h_sleep (l : Launch) (E : Ev) (q : Nat → Nat) (hq : Dq q) {T C : Nat} (hT : T ≤ 16) (hC : 1 ≤ C ∧ C ≤ 4) (σ : St) (hI : Inv T C σ) (o : Nat) (ho : ¬ Aq q o) (t : Int32) (he : (e_X0_sleep T C σ t) = 0) : HN l E q σ o yL_sleep cL_sleep 4 [(0, 9, 12, 13), (0, 9, 15, 22)] rh_sleep [.int t] (Int32.toInt64 (f_X0_sleep T C σ t)) (g_X0_sleep T C σ t) (Inv T C (g_X0_sleep T C σ t) ∧ True) := by
  refine Met.ofH (by decide) (Nat.le_of_ble_eq_true rfl) (fun p e s m args below meth c ls Q B htab hQ hPK hl => ?_)
  obtain ⟨hx, hb, hml, hr, hlocks, hown, hts⟩ := B
  have S0 : Fx p m c cL_sleep 4 s args RL := ⟨hx, hb, hml, hown, hts⟩
  obtain ⟨⟨hP, w0, hO⟩, hK⟩ := hPK
  have hl : lv_has ls 4 [(0, .ref (q 0)), (1, .int t), (2, .ref o)] := hl
  refine lv_aload_n hx hb dL_sleep_0 rfl (lv_at hl 2 rfl) ?_
  refine lv_iconst (v := 0) hx hb dL_sleep_1 (by decide) ?_
  refine lv_aload_n hx hb dL_sleep_2 rfl (lv_at hl 0 rfl) ?_
  refine lv_iload_n hx hb dL_sleep_3 rfl (lv_at hl 1 rfl) ?_
  refine gl_WI (A := Ao q o) (k_X0_sleep l E q hq hT hC σ hI t he) gw_L_24 hd_X0_sleep ⟨rfl, rfl⟩ S0 hK hP va_S.rf (fun a h => Or.inl h) (rest := [.int 0, .ref o]) rfl hl.1 (Nat.le_of_ble_eq_true rfl) ⟨(Nat.le_of_ble_eq_true rfl), (Nat.le_of_ble_eq_true rfl)⟩ ⟨Nat.zero_le _, Nat.zero_le _⟩ dL_sleep_4 (fun H1 locs1 hP hS hz hk hex => ?_)
  have hO := hO.kept (hk o hO.lt ho)
  refine lv_i2l (v := Int32.toInt64 (f_X0_sleep T C σ t)) hx hb dL_sleep_7 rfl ?_
  refine oj_last hx hb hK hq ho hP hO hS dL_sleep_8 (fun H2 locs2 hP hO hS => ?_)
  refine lv_goto (tgt := 18) hx hb dL_sleep_9 rfl ?_
  refine lv_iconst (v := 0) hx hb dL_sleep_18 (by decide) ?_
  exact rt_HN hQ hx hb hr hlocks hP hO hS hex dL_sleep_19
def rx_sleep : Room := { frames := 8, cells := 1, slots := 6, locals := 124 }
set_option maxHeartbeats 400000 in
theorem x_sleep (l : Launch) (hst : l.stackTraces = false) (E : Ev) (q : Nat → Nat) (hq : Dq q) {T C : Nat} (hT : T ≤ 16) (hC : 1 ≤ C ∧ C ≤ 4) (σ : St) (hI : Inv T C σ) (o : Nat) (t : Int32) (he : ¬ (e_X0_sleep T C σ t) = 0) : HT l E q σ o yL_sleep cL_sleep 4 [(0, 9, 12, 13), (0, 9, 15, 22)] rx_sleep [.int t] (e_X0_sleep T C σ t) := by
  refine Met.ofH (by decide) (Nat.le_of_ble_eq_true rfl) (fun p e s m args below meth c ls Q B htab hQ hPK hl => ?_)
  obtain ⟨hx, hb, hml, hr, hlocks, hown, hts⟩ := B
  have S0 : Fx p m c cL_sleep 4 s args RL := ⟨hx, hb, hml, hown, hts⟩
  obtain ⟨hP, hK, hX, hN⟩ := hPK
  have hl : lv_has ls 4 [(0, .ref (q 0)), (1, .int t), (2, .ref o)] := hl
  refine lv_aload_n hx hb dL_sleep_0 rfl (lv_at hl 2 rfl) ?_
  refine lv_iconst (v := 0) hx hb dL_sleep_1 (by decide) ?_
  refine lv_aload_n hx hb dL_sleep_2 rfl (lv_at hl 0 rfl) ?_
  refine lv_iload_n hx hb dL_sleep_3 rfl (lv_at hl 1 rfl) ?_
  refine hc_V (t_X0_sleep l hst E q hq hT hC σ hI t he) gw_L_24 hd_X0_sleep ⟨rfl, rfl⟩ S0 hK hP hX (rest := [.int 0, .ref o]) rfl hl.1 (Nat.le_of_ble_eq_true rfl) ⟨(Nat.le_of_ble_eq_true rfl), (Nat.le_of_ble_eq_true rfl)⟩ ⟨(Nat.le_of_ble_eq_true rfl), (Nat.le_of_ble_eq_true rfl)⟩ dL_sleep_4 (fun H1 q9 ce hz hk hce hcv hcl => ?_)
  rcases er_sleep T C σ t with hcode | hcode | hcode
  · exact absurd hcode he
  · have hcs : (Cond.castable xIAE xIAE).before args s = true := (hX.2.1 (.castable xIAE xIAE) (by decide +kernel)).use rfl
    refine vx_catch (own := RL) (name := xIAE) (E := xIAE) hown [] ⟨0, 9, 12, 13⟩ [⟨0, 9, 15, 22⟩] htab (fun _ h => nomatch h) (by decide) (by decide) (hts _ cl_L_13) hcs hce hcv (by rw [hcode] at hcl; exact hcl) ?_
    show W p l e _ s m args below meth c H1 [] 1 6 Q (F0 m 12 ls [.ref q9])
    refine lv_astore_n (i := 3) hx hb dL_sleep_12 rfl hl (by decide) rfl (fun ls hl => ?_)
    refine lv_iconst (v := 1) hx hb dL_sleep_13 (by decide) ?_
    exact rt_HT hQ hx hb hr hlocks hz hk hcode.symm dL_sleep_14
  · have hcs : (Cond.castable xISE xISE).before args s = true := (hX.2.1 (.castable xISE xISE) (by decide +kernel)).use rfl
    refine vx_catch (own := RL) (name := xISE) (E := xISE) hown [⟨0, 9, 12, 13⟩] ⟨0, 9, 15, 22⟩ [] htab (fun z hz9 => by rw [List.mem_singleton.mp hz9]; exact Or.inr ⟨by decide, xIAE, hts _ cl_L_13, hN.1⟩) (by decide) (by decide) (hts _ cl_L_22) hcs hce hcv (by rw [hcode] at hcl; exact hcl) ?_
    show W p l e _ s m args below meth c H1 [] 1 6 Q (F0 m 15 ls [.ref q9])
    refine lv_astore_n (i := 3) hx hb dL_sleep_15 rfl hl (by decide) rfl (fun ls hl => ?_)
    refine lv_iconst (v := 2) hx hb dL_sleep_16 (by decide) ?_
    exact rt_HT hQ hx hb hr hlocks hz hk hcode.symm dL_sleep_17
theorem er_wake (T C : Nat) (σ : St) (t : Int32) : (e_X0_wake T C σ t) = 0 ∨ (e_X0_wake T C σ t) = 1 ∨ (e_X0_wake T C σ t) = 2 := by
  unfold e_X0_wake
  repeat' split
  all_goals first | exact Or.inl rfl | exact Or.inr (Or.inl rfl) | exact Or.inr (Or.inr rfl)
def rh_wake : Room := { frames := 3, cells := 0, slots := 0, locals := 65 }
set_option maxHeartbeats 400000 in
theorem h_wake (l : Launch) (E : Ev) (q : Nat → Nat) (hq : Dq q) {T C : Nat} (hT : T ≤ 16) (hC : 1 ≤ C ∧ C ≤ 4) (σ : St) (hI : Inv T C σ) (o : Nat) (ho : ¬ Aq q o) (t : Int32) (he : (e_X0_wake T C σ t) = 0) : HN l E q σ o yL_wake cL_wake 4 [(0, 8, 11, 13), (0, 8, 14, 22)] rh_wake [.int t] (f_X0_wake T C σ t) (g_X0_wake T C σ t) (Inv T C (g_X0_wake T C σ t) ∧ True) := by
  refine Met.ofH (by decide) (Nat.le_of_ble_eq_true rfl) (fun p e s m args below meth c ls Q B htab hQ hPK hl => ?_)
  obtain ⟨hx, hb, hml, hr, hlocks, hown, hts⟩ := B
  have S0 : Fx p m c cL_wake 4 s args RL := ⟨hx, hb, hml, hown, hts⟩
  obtain ⟨⟨hP, w0, hO⟩, hK⟩ := hPK
  have hl : lv_has ls 4 [(0, .ref (q 0)), (1, .int t), (2, .ref o)] := hl
  refine lv_aload_n hx hb dL_wake_0 rfl (lv_at hl 2 rfl) ?_
  refine lv_iconst (v := 0) hx hb dL_wake_1 (by decide) ?_
  refine lv_aload_n hx hb dL_wake_2 rfl (lv_at hl 0 rfl) ?_
  refine lv_iload_n hx hb dL_wake_3 rfl (lv_at hl 1 rfl) ?_
  refine gl_WJ (A := Ao q o) (k_X0_wake l E q hq hT hC σ hI t he) gw_L_27 hd_X0_wake ⟨rfl, rfl⟩ S0 hK hP va_S.rf (fun a h => Or.inl h) (rest := [.int 0, .ref o]) rfl hl.1 (Nat.le_of_ble_eq_true rfl) ⟨(Nat.le_of_ble_eq_true rfl), (Nat.le_of_ble_eq_true rfl)⟩ ⟨Nat.zero_le _, Nat.zero_le _⟩ dL_wake_4 (fun H1 locs1 hP hS hz hk hex => ?_)
  have hO := hO.kept (hk o hO.lt ho)
  refine oj_last hx hb hK hq ho hP hO hS dL_wake_7 (fun H2 locs2 hP hO hS => ?_)
  refine lv_goto (tgt := 17) hx hb dL_wake_8 rfl ?_
  refine lv_iconst (v := 0) hx hb dL_wake_17 (by decide) ?_
  exact rt_HN hQ hx hb hr hlocks hP hO hS hex dL_wake_18
def rx_wake : Room := { frames := 8, cells := 1, slots := 6, locals := 124 }
set_option maxHeartbeats 400000 in
theorem x_wake (l : Launch) (hst : l.stackTraces = false) (E : Ev) (q : Nat → Nat) (hq : Dq q) {T C : Nat} (hT : T ≤ 16) (hC : 1 ≤ C ∧ C ≤ 4) (σ : St) (hI : Inv T C σ) (o : Nat) (t : Int32) (he : ¬ (e_X0_wake T C σ t) = 0) : HT l E q σ o yL_wake cL_wake 4 [(0, 8, 11, 13), (0, 8, 14, 22)] rx_wake [.int t] (e_X0_wake T C σ t) := by
  refine Met.ofH (by decide) (Nat.le_of_ble_eq_true rfl) (fun p e s m args below meth c ls Q B htab hQ hPK hl => ?_)
  obtain ⟨hx, hb, hml, hr, hlocks, hown, hts⟩ := B
  have S0 : Fx p m c cL_wake 4 s args RL := ⟨hx, hb, hml, hown, hts⟩
  obtain ⟨hP, hK, hX, hN⟩ := hPK
  have hl : lv_has ls 4 [(0, .ref (q 0)), (1, .int t), (2, .ref o)] := hl
  refine lv_aload_n hx hb dL_wake_0 rfl (lv_at hl 2 rfl) ?_
  refine lv_iconst (v := 0) hx hb dL_wake_1 (by decide) ?_
  refine lv_aload_n hx hb dL_wake_2 rfl (lv_at hl 0 rfl) ?_
  refine lv_iload_n hx hb dL_wake_3 rfl (lv_at hl 1 rfl) ?_
  refine hc_V (t_X0_wake l hst E q hq hT hC σ hI t he) gw_L_27 hd_X0_wake ⟨rfl, rfl⟩ S0 hK hP hX (rest := [.int 0, .ref o]) rfl hl.1 (Nat.le_of_ble_eq_true rfl) ⟨(Nat.le_of_ble_eq_true rfl), (Nat.le_of_ble_eq_true rfl)⟩ ⟨(Nat.le_of_ble_eq_true rfl), (Nat.le_of_ble_eq_true rfl)⟩ dL_wake_4 (fun H1 q9 ce hz hk hce hcv hcl => ?_)
  rcases er_wake T C σ t with hcode | hcode | hcode
  · exact absurd hcode he
  · have hcs : (Cond.castable xIAE xIAE).before args s = true := (hX.2.1 (.castable xIAE xIAE) (by decide +kernel)).use rfl
    refine vx_catch (own := RL) (name := xIAE) (E := xIAE) hown [] ⟨0, 8, 11, 13⟩ [⟨0, 8, 14, 22⟩] htab (fun _ h => nomatch h) (by decide) (by decide) (hts _ cl_L_13) hcs hce hcv (by rw [hcode] at hcl; exact hcl) ?_
    show W p l e _ s m args below meth c H1 [] 1 6 Q (F0 m 11 ls [.ref q9])
    refine lv_astore_n (i := 3) hx hb dL_wake_11 rfl hl (by decide) rfl (fun ls hl => ?_)
    refine lv_iconst (v := 1) hx hb dL_wake_12 (by decide) ?_
    exact rt_HT hQ hx hb hr hlocks hz hk hcode.symm dL_wake_13
  · have hcs : (Cond.castable xISE xISE).before args s = true := (hX.2.1 (.castable xISE xISE) (by decide +kernel)).use rfl
    refine vx_catch (own := RL) (name := xISE) (E := xISE) hown [⟨0, 8, 11, 13⟩] ⟨0, 8, 14, 22⟩ [] htab (fun z hz9 => by rw [List.mem_singleton.mp hz9]; exact Or.inr ⟨by decide, xIAE, hts _ cl_L_13, hN.1⟩) (by decide) (by decide) (hts _ cl_L_22) hcs hce hcv (by rw [hcode] at hcl; exact hcl) ?_
    show W p l e _ s m args below meth c H1 [] 1 6 Q (F0 m 14 ls [.ref q9])
    refine lv_astore_n (i := 3) hx hb dL_wake_14 rfl hl (by decide) rfl (fun ls hl => ?_)
    refine lv_iconst (v := 2) hx hb dL_wake_15 (by decide) ?_
    exact rt_HT hQ hx hb hr hlocks hz hk hcode.symm dL_wake_16
theorem er_exit (T C : Nat) (σ : St) (t : Int32) : (e_X0_exit T C σ t) = 0 ∨ (e_X0_exit T C σ t) = 1 ∨ (e_X0_exit T C σ t) = 2 := by
  unfold e_X0_exit
  repeat' split
  all_goals first | exact Or.inl rfl | exact Or.inr (Or.inl rfl) | exact Or.inr (Or.inr rfl)
def rh_exit : Room := { frames := 2, cells := 0, slots := 0, locals := 44 }
set_option maxHeartbeats 400000 in
theorem h_exit (l : Launch) (E : Ev) (q : Nat → Nat) (hq : Dq q) {T C : Nat} (hT : T ≤ 16) (hC : 1 ≤ C ∧ C ≤ 4) (σ : St) (hI : Inv T C σ) (o : Nat) (ho : ¬ Aq q o) (t : Int32) (he : (e_X0_exit T C σ t) = 0) : HN l E q σ o yL_exit cL_exit 4 [(0, 9, 12, 13), (0, 9, 15, 22)] rh_exit [.int t] (Int32.toInt64 (f_X0_exit T C σ t)) (g_X0_exit T C σ t) (Inv T C (g_X0_exit T C σ t) ∧ True) := by
  refine Met.ofH (by decide) (Nat.le_of_ble_eq_true rfl) (fun p e s m args below meth c ls Q B htab hQ hPK hl => ?_)
  obtain ⟨hx, hb, hml, hr, hlocks, hown, hts⟩ := B
  have S0 : Fx p m c cL_exit 4 s args RL := ⟨hx, hb, hml, hown, hts⟩
  obtain ⟨⟨hP, w0, hO⟩, hK⟩ := hPK
  have hl : lv_has ls 4 [(0, .ref (q 0)), (1, .int t), (2, .ref o)] := hl
  refine lv_aload_n hx hb dL_exit_0 rfl (lv_at hl 2 rfl) ?_
  refine lv_iconst (v := 0) hx hb dL_exit_1 (by decide) ?_
  refine lv_aload_n hx hb dL_exit_2 rfl (lv_at hl 0 rfl) ?_
  refine lv_iload_n hx hb dL_exit_3 rfl (lv_at hl 1 rfl) ?_
  refine gl_WI (A := Ao q o) (k_X0_exit l E q hq hT hC σ hI t he) gw_L_31 hd_X0_exit ⟨rfl, rfl⟩ S0 hK hP va_S.rf (fun a h => Or.inl h) (rest := [.int 0, .ref o]) rfl hl.1 (Nat.le_of_ble_eq_true rfl) ⟨(Nat.le_of_ble_eq_true rfl), (Nat.le_of_ble_eq_true rfl)⟩ ⟨Nat.zero_le _, Nat.zero_le _⟩ dL_exit_4 (fun H1 locs1 hP hS hz hk hex => ?_)
  have hO := hO.kept (hk o hO.lt ho)
  refine lv_i2l (v := Int32.toInt64 (f_X0_exit T C σ t)) hx hb dL_exit_7 rfl ?_
  refine oj_last hx hb hK hq ho hP hO hS dL_exit_8 (fun H2 locs2 hP hO hS => ?_)
  refine lv_goto (tgt := 18) hx hb dL_exit_9 rfl ?_
  refine lv_iconst (v := 0) hx hb dL_exit_18 (by decide) ?_
  exact rt_HN hQ hx hb hr hlocks hP hO hS hex dL_exit_19
def rx_exit : Room := { frames := 8, cells := 1, slots := 6, locals := 124 }
set_option maxHeartbeats 400000 in
theorem x_exit (l : Launch) (hst : l.stackTraces = false) (E : Ev) (q : Nat → Nat) (hq : Dq q) {T C : Nat} (hT : T ≤ 16) (hC : 1 ≤ C ∧ C ≤ 4) (σ : St) (hI : Inv T C σ) (o : Nat) (t : Int32) (he : ¬ (e_X0_exit T C σ t) = 0) : HT l E q σ o yL_exit cL_exit 4 [(0, 9, 12, 13), (0, 9, 15, 22)] rx_exit [.int t] (e_X0_exit T C σ t) := by
  refine Met.ofH (by decide) (Nat.le_of_ble_eq_true rfl) (fun p e s m args below meth c ls Q B htab hQ hPK hl => ?_)
  obtain ⟨hx, hb, hml, hr, hlocks, hown, hts⟩ := B
  have S0 : Fx p m c cL_exit 4 s args RL := ⟨hx, hb, hml, hown, hts⟩
  obtain ⟨hP, hK, hX, hN⟩ := hPK
  have hl : lv_has ls 4 [(0, .ref (q 0)), (1, .int t), (2, .ref o)] := hl
  refine lv_aload_n hx hb dL_exit_0 rfl (lv_at hl 2 rfl) ?_
  refine lv_iconst (v := 0) hx hb dL_exit_1 (by decide) ?_
  refine lv_aload_n hx hb dL_exit_2 rfl (lv_at hl 0 rfl) ?_
  refine lv_iload_n hx hb dL_exit_3 rfl (lv_at hl 1 rfl) ?_
  refine hc_V (t_X0_exit l hst E q hq hT hC σ hI t he) gw_L_31 hd_X0_exit ⟨rfl, rfl⟩ S0 hK hP hX (rest := [.int 0, .ref o]) rfl hl.1 (Nat.le_of_ble_eq_true rfl) ⟨(Nat.le_of_ble_eq_true rfl), (Nat.le_of_ble_eq_true rfl)⟩ ⟨(Nat.le_of_ble_eq_true rfl), (Nat.le_of_ble_eq_true rfl)⟩ dL_exit_4 (fun H1 q9 ce hz hk hce hcv hcl => ?_)
  rcases er_exit T C σ t with hcode | hcode | hcode
  · exact absurd hcode he
  · have hcs : (Cond.castable xIAE xIAE).before args s = true := (hX.2.1 (.castable xIAE xIAE) (by decide +kernel)).use rfl
    refine vx_catch (own := RL) (name := xIAE) (E := xIAE) hown [] ⟨0, 9, 12, 13⟩ [⟨0, 9, 15, 22⟩] htab (fun _ h => nomatch h) (by decide) (by decide) (hts _ cl_L_13) hcs hce hcv (by rw [hcode] at hcl; exact hcl) ?_
    show W p l e _ s m args below meth c H1 [] 1 6 Q (F0 m 12 ls [.ref q9])
    refine lv_astore_n (i := 3) hx hb dL_exit_12 rfl hl (by decide) rfl (fun ls hl => ?_)
    refine lv_iconst (v := 1) hx hb dL_exit_13 (by decide) ?_
    exact rt_HT hQ hx hb hr hlocks hz hk hcode.symm dL_exit_14
  · have hcs : (Cond.castable xISE xISE).before args s = true := (hX.2.1 (.castable xISE xISE) (by decide +kernel)).use rfl
    refine vx_catch (own := RL) (name := xISE) (E := xISE) hown [⟨0, 9, 12, 13⟩] ⟨0, 9, 15, 22⟩ [] htab (fun z hz9 => by rw [List.mem_singleton.mp hz9]; exact Or.inr ⟨by decide, xIAE, hts _ cl_L_13, hN.1⟩) (by decide) (by decide) (hts _ cl_L_22) hcs hce hcv (by rw [hcode] at hcl; exact hcl) ?_
    show W p l e _ s m args below meth c H1 [] 1 6 Q (F0 m 15 ls [.ref q9])
    refine lv_astore_n (i := 3) hx hb dL_exit_15 rfl hl (by decide) rfl (fun ls hl => ?_)
    refine lv_iconst (v := 2) hx hb dL_exit_16 (by decide) ?_
    exact rt_HT hQ hx hb hr hlocks hz hk hcode.symm dL_exit_17
theorem er_setWeight (T C : Nat) (σ : St) (t : Int32) (w9 : Int32) : (e_X0_setWeight T C σ t w9) = 0 ∨ (e_X0_setWeight T C σ t w9) = 1 ∨ (e_X0_setWeight T C σ t w9) = 2 := by
  unfold e_X0_setWeight
  repeat' split
  all_goals first | exact Or.inl rfl | exact Or.inr (Or.inl rfl) | exact Or.inr (Or.inr rfl)
def rh_setWeight : Room := { frames := 2, cells := 0, slots := 0, locals := 44 }
set_option maxHeartbeats 400000 in
theorem h_setWeight (l : Launch) (E : Ev) (q : Nat → Nat) (hq : Dq q) {T C : Nat} (hT : T ≤ 16) (hC : 1 ≤ C ∧ C ≤ 4) (σ : St) (hI : Inv T C σ) (o : Nat) (ho : ¬ Aq q o) (t : Int32) (w9 : Int32) (he : (e_X0_setWeight T C σ t w9) = 0) : HN l E q σ o yL_setWeight cL_setWeight 5 [(0, 10, 13, 13), (0, 10, 17, 22)] rh_setWeight [.int t, .int w9] (Int32.toInt64 (f_X0_setWeight T C σ t w9)) (g_X0_setWeight T C σ t w9) (Inv T C (g_X0_setWeight T C σ t w9) ∧ True) := by
  refine Met.ofH (by decide) (Nat.le_of_ble_eq_true rfl) (fun p e s m args below meth c ls Q B htab hQ hPK hl => ?_)
  obtain ⟨hx, hb, hml, hr, hlocks, hown, hts⟩ := B
  have S0 : Fx p m c cL_setWeight 5 s args RL := ⟨hx, hb, hml, hown, hts⟩
  obtain ⟨⟨hP, w0, hO⟩, hK⟩ := hPK
  have hl : lv_has ls 5 [(0, .ref (q 0)), (1, .int t), (2, .int w9), (3, .ref o)] := hl
  refine lv_aload_n hx hb dL_setWeight_0 rfl (lv_at hl 3 rfl) ?_
  refine lv_iconst (v := 0) hx hb dL_setWeight_1 (by decide) ?_
  refine lv_aload_n hx hb dL_setWeight_2 rfl (lv_at hl 0 rfl) ?_
  refine lv_iload_n hx hb dL_setWeight_3 rfl (lv_at hl 1 rfl) ?_
  refine lv_iload_n hx hb dL_setWeight_4 rfl (lv_at hl 2 rfl) ?_
  refine gl_WI (A := Ao q o) (k_X0_setWeight l E q hq hT hC σ hI t w9 he) gw_L_34 hd_X0_setWeight ⟨rfl, rfl⟩ S0 hK hP va_S.rf (fun a h => Or.inl h) (rest := [.int 0, .ref o]) rfl hl.1 (Nat.le_of_ble_eq_true rfl) ⟨(Nat.le_of_ble_eq_true rfl), (Nat.le_of_ble_eq_true rfl)⟩ ⟨Nat.zero_le _, Nat.zero_le _⟩ dL_setWeight_5 (fun H1 locs1 hP hS hz hk hex => ?_)
  have hO := hO.kept (hk o hO.lt ho)
  refine lv_i2l (v := Int32.toInt64 (f_X0_setWeight T C σ t w9)) hx hb dL_setWeight_8 rfl ?_
  refine oj_last hx hb hK hq ho hP hO hS dL_setWeight_9 (fun H2 locs2 hP hO hS => ?_)
  refine lv_goto (tgt := 21) hx hb dL_setWeight_10 rfl ?_
  refine lv_iconst (v := 0) hx hb dL_setWeight_21 (by decide) ?_
  exact rt_HN hQ hx hb hr hlocks hP hO hS hex dL_setWeight_22
def rx_setWeight : Room := { frames := 8, cells := 1, slots := 6, locals := 126 }
set_option maxHeartbeats 400000 in
theorem x_setWeight (l : Launch) (hst : l.stackTraces = false) (E : Ev) (q : Nat → Nat) (hq : Dq q) {T C : Nat} (hT : T ≤ 16) (hC : 1 ≤ C ∧ C ≤ 4) (σ : St) (hI : Inv T C σ) (o : Nat) (t : Int32) (w9 : Int32) (he : ¬ (e_X0_setWeight T C σ t w9) = 0) : HT l E q σ o yL_setWeight cL_setWeight 5 [(0, 10, 13, 13), (0, 10, 17, 22)] rx_setWeight [.int t, .int w9] (e_X0_setWeight T C σ t w9) := by
  refine Met.ofH (by decide) (Nat.le_of_ble_eq_true rfl) (fun p e s m args below meth c ls Q B htab hQ hPK hl => ?_)
  obtain ⟨hx, hb, hml, hr, hlocks, hown, hts⟩ := B
  have S0 : Fx p m c cL_setWeight 5 s args RL := ⟨hx, hb, hml, hown, hts⟩
  obtain ⟨hP, hK, hX, hN⟩ := hPK
  have hl : lv_has ls 5 [(0, .ref (q 0)), (1, .int t), (2, .int w9), (3, .ref o)] := hl
  refine lv_aload_n hx hb dL_setWeight_0 rfl (lv_at hl 3 rfl) ?_
  refine lv_iconst (v := 0) hx hb dL_setWeight_1 (by decide) ?_
  refine lv_aload_n hx hb dL_setWeight_2 rfl (lv_at hl 0 rfl) ?_
  refine lv_iload_n hx hb dL_setWeight_3 rfl (lv_at hl 1 rfl) ?_
  refine lv_iload_n hx hb dL_setWeight_4 rfl (lv_at hl 2 rfl) ?_
  refine hc_V (t_X0_setWeight l hst E q hq hT hC σ hI t w9 he) gw_L_34 hd_X0_setWeight ⟨rfl, rfl⟩ S0 hK hP hX (rest := [.int 0, .ref o]) rfl hl.1 (Nat.le_of_ble_eq_true rfl) ⟨(Nat.le_of_ble_eq_true rfl), (Nat.le_of_ble_eq_true rfl)⟩ ⟨(Nat.le_of_ble_eq_true rfl), (Nat.le_of_ble_eq_true rfl)⟩ dL_setWeight_5 (fun H1 q9 ce hz hk hce hcv hcl => ?_)
  rcases er_setWeight T C σ t w9 with hcode | hcode | hcode
  · exact absurd hcode he
  · have hcs : (Cond.castable xIAE xIAE).before args s = true := (hX.2.1 (.castable xIAE xIAE) (by decide +kernel)).use rfl
    refine vx_catch (own := RL) (name := xIAE) (E := xIAE) hown [] ⟨0, 10, 13, 13⟩ [⟨0, 10, 17, 22⟩] htab (fun _ h => nomatch h) (by decide) (by decide) (hts _ cl_L_13) hcs hce hcv (by rw [hcode] at hcl; exact hcl) ?_
    show W p l e _ s m args below meth c H1 [] 1 6 Q (F0 m 13 ls [.ref q9])
    refine lv_astore hx hb dL_setWeight_13 hl (by decide) rfl (fun ls hl => ?_)
    refine lv_iconst (v := 1) hx hb dL_setWeight_15 (by decide) ?_
    exact rt_HT hQ hx hb hr hlocks hz hk hcode.symm dL_setWeight_16
  · have hcs : (Cond.castable xISE xISE).before args s = true := (hX.2.1 (.castable xISE xISE) (by decide +kernel)).use rfl
    refine vx_catch (own := RL) (name := xISE) (E := xISE) hown [⟨0, 10, 13, 13⟩] ⟨0, 10, 17, 22⟩ [] htab (fun z hz9 => by rw [List.mem_singleton.mp hz9]; exact Or.inr ⟨by decide, xIAE, hts _ cl_L_13, hN.1⟩) (by decide) (by decide) (hts _ cl_L_22) hcs hce hcv (by rw [hcode] at hcl; exact hcl) ?_
    show W p l e _ s m args below meth c H1 [] 1 6 Q (F0 m 17 ls [.ref q9])
    refine lv_astore hx hb dL_setWeight_17 hl (by decide) rfl (fun ls hl => ?_)
    refine lv_iconst (v := 2) hx hb dL_setWeight_19 (by decide) ?_
    exact rt_HT hQ hx hb hr hlocks hz hk hcode.symm dL_setWeight_20
theorem er_setCookie (T C : Nat) (σ : St) (t : Int32) (w9 : Int32) : (e_X0_setCookie T C σ t w9) = 0 ∨ (e_X0_setCookie T C σ t w9) = 1 ∨ (e_X0_setCookie T C σ t w9) = 2 := by
  unfold e_X0_setCookie
  repeat' split
  all_goals first | exact Or.inl rfl | exact Or.inr (Or.inl rfl) | exact Or.inr (Or.inr rfl)
def rh_setCookie : Room := { frames := 2, cells := 0, slots := 0, locals := 44 }
set_option maxHeartbeats 400000 in
theorem h_setCookie (l : Launch) (E : Ev) (q : Nat → Nat) (hq : Dq q) {T C : Nat} (hT : T ≤ 16) (hC : 1 ≤ C ∧ C ≤ 4) (σ : St) (hI : Inv T C σ) (o : Nat) (ho : ¬ Aq q o) (t : Int32) (w9 : Int32) (he : (e_X0_setCookie T C σ t w9) = 0) : HN l E q σ o yL_setCookie cL_setCookie 5 [(0, 10, 13, 13), (0, 10, 17, 22)] rh_setCookie [.int t, .int w9] (Int32.toInt64 (f_X0_setCookie T C σ t w9)) (g_X0_setCookie T C σ t w9) (Inv T C (g_X0_setCookie T C σ t w9) ∧ True) := by
  refine Met.ofH (by decide) (Nat.le_of_ble_eq_true rfl) (fun p e s m args below meth c ls Q B htab hQ hPK hl => ?_)
  obtain ⟨hx, hb, hml, hr, hlocks, hown, hts⟩ := B
  have S0 : Fx p m c cL_setCookie 5 s args RL := ⟨hx, hb, hml, hown, hts⟩
  obtain ⟨⟨hP, w0, hO⟩, hK⟩ := hPK
  have hl : lv_has ls 5 [(0, .ref (q 0)), (1, .int t), (2, .int w9), (3, .ref o)] := hl
  refine lv_aload_n hx hb dL_setCookie_0 rfl (lv_at hl 3 rfl) ?_
  refine lv_iconst (v := 0) hx hb dL_setCookie_1 (by decide) ?_
  refine lv_aload_n hx hb dL_setCookie_2 rfl (lv_at hl 0 rfl) ?_
  refine lv_iload_n hx hb dL_setCookie_3 rfl (lv_at hl 1 rfl) ?_
  refine lv_iload_n hx hb dL_setCookie_4 rfl (lv_at hl 2 rfl) ?_
  refine gl_WI (A := Ao q o) (k_X0_setCookie l E q hq hT hC σ hI t w9 he) gw_L_38 hd_X0_setCookie ⟨rfl, rfl⟩ S0 hK hP va_S.rf (fun a h => Or.inl h) (rest := [.int 0, .ref o]) rfl hl.1 (Nat.le_of_ble_eq_true rfl) ⟨(Nat.le_of_ble_eq_true rfl), (Nat.le_of_ble_eq_true rfl)⟩ ⟨Nat.zero_le _, Nat.zero_le _⟩ dL_setCookie_5 (fun H1 locs1 hP hS hz hk hex => ?_)
  have hO := hO.kept (hk o hO.lt ho)
  refine lv_i2l (v := Int32.toInt64 (f_X0_setCookie T C σ t w9)) hx hb dL_setCookie_8 rfl ?_
  refine oj_last hx hb hK hq ho hP hO hS dL_setCookie_9 (fun H2 locs2 hP hO hS => ?_)
  refine lv_goto (tgt := 21) hx hb dL_setCookie_10 rfl ?_
  refine lv_iconst (v := 0) hx hb dL_setCookie_21 (by decide) ?_
  exact rt_HN hQ hx hb hr hlocks hP hO hS hex dL_setCookie_22
def rx_setCookie : Room := { frames := 8, cells := 1, slots := 6, locals := 126 }
set_option maxHeartbeats 400000 in
theorem x_setCookie (l : Launch) (hst : l.stackTraces = false) (E : Ev) (q : Nat → Nat) (hq : Dq q) {T C : Nat} (hT : T ≤ 16) (hC : 1 ≤ C ∧ C ≤ 4) (σ : St) (hI : Inv T C σ) (o : Nat) (t : Int32) (w9 : Int32) (he : ¬ (e_X0_setCookie T C σ t w9) = 0) : HT l E q σ o yL_setCookie cL_setCookie 5 [(0, 10, 13, 13), (0, 10, 17, 22)] rx_setCookie [.int t, .int w9] (e_X0_setCookie T C σ t w9) := by
  refine Met.ofH (by decide) (Nat.le_of_ble_eq_true rfl) (fun p e s m args below meth c ls Q B htab hQ hPK hl => ?_)
  obtain ⟨hx, hb, hml, hr, hlocks, hown, hts⟩ := B
  have S0 : Fx p m c cL_setCookie 5 s args RL := ⟨hx, hb, hml, hown, hts⟩
  obtain ⟨hP, hK, hX, hN⟩ := hPK
  have hl : lv_has ls 5 [(0, .ref (q 0)), (1, .int t), (2, .int w9), (3, .ref o)] := hl
  refine lv_aload_n hx hb dL_setCookie_0 rfl (lv_at hl 3 rfl) ?_
  refine lv_iconst (v := 0) hx hb dL_setCookie_1 (by decide) ?_
  refine lv_aload_n hx hb dL_setCookie_2 rfl (lv_at hl 0 rfl) ?_
  refine lv_iload_n hx hb dL_setCookie_3 rfl (lv_at hl 1 rfl) ?_
  refine lv_iload_n hx hb dL_setCookie_4 rfl (lv_at hl 2 rfl) ?_
  refine hc_V (t_X0_setCookie l hst E q hq hT hC σ hI t w9 he) gw_L_38 hd_X0_setCookie ⟨rfl, rfl⟩ S0 hK hP hX (rest := [.int 0, .ref o]) rfl hl.1 (Nat.le_of_ble_eq_true rfl) ⟨(Nat.le_of_ble_eq_true rfl), (Nat.le_of_ble_eq_true rfl)⟩ ⟨(Nat.le_of_ble_eq_true rfl), (Nat.le_of_ble_eq_true rfl)⟩ dL_setCookie_5 (fun H1 q9 ce hz hk hce hcv hcl => ?_)
  rcases er_setCookie T C σ t w9 with hcode | hcode | hcode
  · exact absurd hcode he
  · have hcs : (Cond.castable xIAE xIAE).before args s = true := (hX.2.1 (.castable xIAE xIAE) (by decide +kernel)).use rfl
    refine vx_catch (own := RL) (name := xIAE) (E := xIAE) hown [] ⟨0, 10, 13, 13⟩ [⟨0, 10, 17, 22⟩] htab (fun _ h => nomatch h) (by decide) (by decide) (hts _ cl_L_13) hcs hce hcv (by rw [hcode] at hcl; exact hcl) ?_
    show W p l e _ s m args below meth c H1 [] 1 6 Q (F0 m 13 ls [.ref q9])
    refine lv_astore hx hb dL_setCookie_13 hl (by decide) rfl (fun ls hl => ?_)
    refine lv_iconst (v := 1) hx hb dL_setCookie_15 (by decide) ?_
    exact rt_HT hQ hx hb hr hlocks hz hk hcode.symm dL_setCookie_16
  · have hcs : (Cond.castable xISE xISE).before args s = true := (hX.2.1 (.castable xISE xISE) (by decide +kernel)).use rfl
    refine vx_catch (own := RL) (name := xISE) (E := xISE) hown [⟨0, 10, 13, 13⟩] ⟨0, 10, 17, 22⟩ [] htab (fun z hz9 => by rw [List.mem_singleton.mp hz9]; exact Or.inr ⟨by decide, xIAE, hts _ cl_L_13, hN.1⟩) (by decide) (by decide) (hts _ cl_L_22) hcs hce hcv (by rw [hcode] at hcl; exact hcl) ?_
    show W p l e _ s m args below meth c H1 [] 1 6 Q (F0 m 17 ls [.ref q9])
    refine lv_astore hx hb dL_setCookie_17 hl (by decide) rfl (fun ls hl => ?_)
    refine lv_iconst (v := 2) hx hb dL_setCookie_19 (by decide) ?_
    exact rt_HT hQ hx hb hr hlocks hz hk hcode.symm dL_setCookie_20
theorem er_moveTask (T C : Nat) (σ : St) (t : Int32) (c9 : Int32) : (e_X0_moveTask T C σ t c9) = 0 ∨ (e_X0_moveTask T C σ t c9) = 1 ∨ (e_X0_moveTask T C σ t c9) = 2 := by
  unfold e_X0_moveTask
  repeat' split
  all_goals first | exact Or.inl rfl | exact Or.inr (Or.inl rfl) | exact Or.inr (Or.inr rfl)
def rh_moveTask : Room := { frames := 3, cells := 0, slots := 0, locals := 66 }
set_option maxHeartbeats 400000 in
theorem h_moveTask (l : Launch) (E : Ev) (q : Nat → Nat) (hq : Dq q) {T C : Nat} (hT : T ≤ 16) (hC : 1 ≤ C ∧ C ≤ 4) (σ : St) (hI : Inv T C σ) (o : Nat) (ho : ¬ Aq q o) (t : Int32) (c9 : Int32) (he : (e_X0_moveTask T C σ t c9) = 0) : HN l E q σ o yL_moveTask cL_moveTask 5 [(0, 10, 13, 13), (0, 10, 17, 22)] rh_moveTask [.int t, .int c9] (Int32.toInt64 (f_X0_moveTask T C σ t c9)) (g_X0_moveTask T C σ t c9) (Inv T C (g_X0_moveTask T C σ t c9) ∧ True) := by
  refine Met.ofH (by decide) (Nat.le_of_ble_eq_true rfl) (fun p e s m args below meth c ls Q B htab hQ hPK hl => ?_)
  obtain ⟨hx, hb, hml, hr, hlocks, hown, hts⟩ := B
  have S0 : Fx p m c cL_moveTask 5 s args RL := ⟨hx, hb, hml, hown, hts⟩
  obtain ⟨⟨hP, w0, hO⟩, hK⟩ := hPK
  have hl : lv_has ls 5 [(0, .ref (q 0)), (1, .int t), (2, .int c9), (3, .ref o)] := hl
  refine lv_aload_n hx hb dL_moveTask_0 rfl (lv_at hl 3 rfl) ?_
  refine lv_iconst (v := 0) hx hb dL_moveTask_1 (by decide) ?_
  refine lv_aload_n hx hb dL_moveTask_2 rfl (lv_at hl 0 rfl) ?_
  refine lv_iload_n hx hb dL_moveTask_3 rfl (lv_at hl 1 rfl) ?_
  refine lv_iload_n hx hb dL_moveTask_4 rfl (lv_at hl 2 rfl) ?_
  refine gl_WI (A := Ao q o) (k_X0_moveTask l E q hq hT hC σ hI t c9 he) gw_L_41 hd_X0_moveTask ⟨rfl, rfl⟩ S0 hK hP va_S.rf (fun a h => Or.inl h) (rest := [.int 0, .ref o]) rfl hl.1 (Nat.le_of_ble_eq_true rfl) ⟨(Nat.le_of_ble_eq_true rfl), (Nat.le_of_ble_eq_true rfl)⟩ ⟨Nat.zero_le _, Nat.zero_le _⟩ dL_moveTask_5 (fun H1 locs1 hP hS hz hk hex => ?_)
  have hO := hO.kept (hk o hO.lt ho)
  refine lv_i2l (v := Int32.toInt64 (f_X0_moveTask T C σ t c9)) hx hb dL_moveTask_8 rfl ?_
  refine oj_last hx hb hK hq ho hP hO hS dL_moveTask_9 (fun H2 locs2 hP hO hS => ?_)
  refine lv_goto (tgt := 21) hx hb dL_moveTask_10 rfl ?_
  refine lv_iconst (v := 0) hx hb dL_moveTask_21 (by decide) ?_
  exact rt_HN hQ hx hb hr hlocks hP hO hS hex dL_moveTask_22
def rx_moveTask : Room := { frames := 8, cells := 1, slots := 6, locals := 126 }
set_option maxHeartbeats 400000 in
theorem x_moveTask (l : Launch) (hst : l.stackTraces = false) (E : Ev) (q : Nat → Nat) (hq : Dq q) {T C : Nat} (hT : T ≤ 16) (hC : 1 ≤ C ∧ C ≤ 4) (σ : St) (hI : Inv T C σ) (o : Nat) (t : Int32) (c9 : Int32) (he : ¬ (e_X0_moveTask T C σ t c9) = 0) : HT l E q σ o yL_moveTask cL_moveTask 5 [(0, 10, 13, 13), (0, 10, 17, 22)] rx_moveTask [.int t, .int c9] (e_X0_moveTask T C σ t c9) := by
  refine Met.ofH (by decide) (Nat.le_of_ble_eq_true rfl) (fun p e s m args below meth c ls Q B htab hQ hPK hl => ?_)
  obtain ⟨hx, hb, hml, hr, hlocks, hown, hts⟩ := B
  have S0 : Fx p m c cL_moveTask 5 s args RL := ⟨hx, hb, hml, hown, hts⟩
  obtain ⟨hP, hK, hX, hN⟩ := hPK
  have hl : lv_has ls 5 [(0, .ref (q 0)), (1, .int t), (2, .int c9), (3, .ref o)] := hl
  refine lv_aload_n hx hb dL_moveTask_0 rfl (lv_at hl 3 rfl) ?_
  refine lv_iconst (v := 0) hx hb dL_moveTask_1 (by decide) ?_
  refine lv_aload_n hx hb dL_moveTask_2 rfl (lv_at hl 0 rfl) ?_
  refine lv_iload_n hx hb dL_moveTask_3 rfl (lv_at hl 1 rfl) ?_
  refine lv_iload_n hx hb dL_moveTask_4 rfl (lv_at hl 2 rfl) ?_
  refine hc_V (t_X0_moveTask l hst E q hq hT hC σ hI t c9 he) gw_L_41 hd_X0_moveTask ⟨rfl, rfl⟩ S0 hK hP hX (rest := [.int 0, .ref o]) rfl hl.1 (Nat.le_of_ble_eq_true rfl) ⟨(Nat.le_of_ble_eq_true rfl), (Nat.le_of_ble_eq_true rfl)⟩ ⟨(Nat.le_of_ble_eq_true rfl), (Nat.le_of_ble_eq_true rfl)⟩ dL_moveTask_5 (fun H1 q9 ce hz hk hce hcv hcl => ?_)
  rcases er_moveTask T C σ t c9 with hcode | hcode | hcode
  · exact absurd hcode he
  · have hcs : (Cond.castable xIAE xIAE).before args s = true := (hX.2.1 (.castable xIAE xIAE) (by decide +kernel)).use rfl
    refine vx_catch (own := RL) (name := xIAE) (E := xIAE) hown [] ⟨0, 10, 13, 13⟩ [⟨0, 10, 17, 22⟩] htab (fun _ h => nomatch h) (by decide) (by decide) (hts _ cl_L_13) hcs hce hcv (by rw [hcode] at hcl; exact hcl) ?_
    show W p l e _ s m args below meth c H1 [] 1 6 Q (F0 m 13 ls [.ref q9])
    refine lv_astore hx hb dL_moveTask_13 hl (by decide) rfl (fun ls hl => ?_)
    refine lv_iconst (v := 1) hx hb dL_moveTask_15 (by decide) ?_
    exact rt_HT hQ hx hb hr hlocks hz hk hcode.symm dL_moveTask_16
  · have hcs : (Cond.castable xISE xISE).before args s = true := (hX.2.1 (.castable xISE xISE) (by decide +kernel)).use rfl
    refine vx_catch (own := RL) (name := xISE) (E := xISE) hown [⟨0, 10, 13, 13⟩] ⟨0, 10, 17, 22⟩ [] htab (fun z hz9 => by rw [List.mem_singleton.mp hz9]; exact Or.inr ⟨by decide, xIAE, hts _ cl_L_13, hN.1⟩) (by decide) (by decide) (hts _ cl_L_22) hcs hce hcv (by rw [hcode] at hcl; exact hcl) ?_
    show W p l e _ s m args below meth c H1 [] 1 6 Q (F0 m 17 ls [.ref q9])
    refine lv_astore hx hb dL_moveTask_17 hl (by decide) rfl (fun ls hl => ?_)
    refine lv_iconst (v := 2) hx hb dL_moveTask_19 (by decide) ?_
    exact rt_HT hQ hx hb hr hlocks hz hk hcode.symm dL_moveTask_20
theorem er_stateOf (T C : Nat) (σ : St) (t : Int32) : (e_X0_stateOf T C σ t) = 0 ∨ (e_X0_stateOf T C σ t) = 1 := by
  unfold e_X0_stateOf
  repeat' split
  all_goals first | exact Or.inl rfl | exact Or.inr rfl
def rh_stateOf : Room := { frames := 2, cells := 0, slots := 0, locals := 42 }
set_option maxHeartbeats 400000 in
theorem h_stateOf (l : Launch) (E : Ev) (q : Nat → Nat) (hq : Dq q) {T C : Nat} (hT : T ≤ 16) (hC : 1 ≤ C ∧ C ≤ 4) (σ : St) (hI : Inv T C σ) (o : Nat) (ho : ¬ Aq q o) (t : Int32) (he : (e_X0_stateOf T C σ t) = 0) : HN l E q σ o yL_stateOf cL_stateOf 4 [(0, 9, 12, 13)] rh_stateOf [.int t] (Int32.toInt64 (f_X0_stateOf T C σ t)) σ True := by
  refine Met.ofH (by decide) (Nat.le_of_ble_eq_true rfl) (fun p e s m args below meth c ls Q B htab hQ hPK hl => ?_)
  obtain ⟨hx, hb, hml, hr, hlocks, hown, hts⟩ := B
  have S0 : Fx p m c cL_stateOf 4 s args RL := ⟨hx, hb, hml, hown, hts⟩
  obtain ⟨⟨hP, w0, hO⟩, hK⟩ := hPK
  have hl : lv_has ls 4 [(0, .ref (q 0)), (1, .int t), (2, .ref o)] := hl
  refine lv_aload_n hx hb dL_stateOf_0 rfl (lv_at hl 2 rfl) ?_
  refine lv_iconst (v := 0) hx hb dL_stateOf_1 (by decide) ?_
  refine lv_aload_n hx hb dL_stateOf_2 rfl (lv_at hl 0 rfl) ?_
  refine lv_iload_n hx hb dL_stateOf_3 rfl (lv_at hl 1 rfl) ?_
  refine cl_RI (k_X0_stateOf l E q hq hT hC σ hI t he) gw_L_44 hd_X0_stateOf ⟨rfl, rfl⟩ S0 hK hP (rest := [.int 0, .ref o]) rfl hl.1 (Nat.le_of_ble_eq_true rfl) ⟨(Nat.le_of_ble_eq_true rfl), (Nat.le_of_ble_eq_true rfl)⟩ ⟨Nat.zero_le _, Nat.zero_le _⟩ dL_stateOf_4 (fun hex => ?_)
  refine lv_i2l (v := Int32.toInt64 (f_X0_stateOf T C σ t)) hx hb dL_stateOf_7 rfl ?_
  refine oj_last hx hb hK hq ho hP hO va_S.rf dL_stateOf_8 (fun H2 locs2 hP hO hS => ?_)
  refine lv_goto (tgt := 15) hx hb dL_stateOf_9 rfl ?_
  refine lv_iconst (v := 0) hx hb dL_stateOf_15 (by decide) ?_
  exact rt_HN hQ hx hb hr hlocks hP hO hS hex dL_stateOf_16
def rx_stateOf : Room := { frames := 8, cells := 1, slots := 6, locals := 124 }
set_option maxHeartbeats 400000 in
theorem x_stateOf (l : Launch) (hst : l.stackTraces = false) (E : Ev) (q : Nat → Nat) (hq : Dq q) {T C : Nat} (hT : T ≤ 16) (hC : 1 ≤ C ∧ C ≤ 4) (σ : St) (hI : Inv T C σ) (o : Nat) (t : Int32) (he : ¬ (e_X0_stateOf T C σ t) = 0) : HT l E q σ o yL_stateOf cL_stateOf 4 [(0, 9, 12, 13)] rx_stateOf [.int t] (e_X0_stateOf T C σ t) := by
  refine Met.ofH (by decide) (Nat.le_of_ble_eq_true rfl) (fun p e s m args below meth c ls Q B htab hQ hPK hl => ?_)
  obtain ⟨hx, hb, hml, hr, hlocks, hown, hts⟩ := B
  have S0 : Fx p m c cL_stateOf 4 s args RL := ⟨hx, hb, hml, hown, hts⟩
  obtain ⟨hP, hK, hX, hN⟩ := hPK
  have hl : lv_has ls 4 [(0, .ref (q 0)), (1, .int t), (2, .ref o)] := hl
  refine lv_aload_n hx hb dL_stateOf_0 rfl (lv_at hl 2 rfl) ?_
  refine lv_iconst (v := 0) hx hb dL_stateOf_1 (by decide) ?_
  refine lv_aload_n hx hb dL_stateOf_2 rfl (lv_at hl 0 rfl) ?_
  refine lv_iload_n hx hb dL_stateOf_3 rfl (lv_at hl 1 rfl) ?_
  refine hc_V (t_X0_stateOf l hst E q hq hT hC σ hI t he) gw_L_44 hd_X0_stateOf ⟨rfl, rfl⟩ S0 hK hP hX (rest := [.int 0, .ref o]) rfl hl.1 (Nat.le_of_ble_eq_true rfl) ⟨(Nat.le_of_ble_eq_true rfl), (Nat.le_of_ble_eq_true rfl)⟩ ⟨(Nat.le_of_ble_eq_true rfl), (Nat.le_of_ble_eq_true rfl)⟩ dL_stateOf_4 (fun H1 q9 ce hz hk hce hcv hcl => ?_)
  have hcode := (er_stateOf T C σ t).resolve_left he
  have hcs : (Cond.castable xIAE xIAE).before args s = true := (hX.2.1 (.castable xIAE xIAE) (by decide +kernel)).use rfl
  refine vx_catch (own := RL) (name := xIAE) (E := xIAE) hown [] ⟨0, 9, 12, 13⟩ [] htab (fun _ h => nomatch h) (by decide) (by decide) (hts _ cl_L_13) hcs hce hcv (by rw [hcode] at hcl; exact hcl) ?_
  show W p l e _ s m args below meth c H1 [] 1 6 Q (F0 m 12 ls [.ref q9])
  refine lv_astore_n (i := 3) hx hb dL_stateOf_12 rfl hl (by decide) rfl (fun ls hl => ?_)
  refine lv_iconst (v := 1) hx hb dL_stateOf_13 (by decide) ?_
  exact rt_HT hQ hx hb hr hlocks hz hk hcode.symm dL_stateOf_14
theorem er_cpuOf (T C : Nat) (σ : St) (t : Int32) : (e_X0_cpuOf T C σ t) = 0 ∨ (e_X0_cpuOf T C σ t) = 1 := by
  unfold e_X0_cpuOf
  repeat' split
  all_goals first | exact Or.inl rfl | exact Or.inr rfl
def rh_cpuOf : Room := { frames := 2, cells := 0, slots := 0, locals := 42 }
set_option maxHeartbeats 400000 in
theorem h_cpuOf (l : Launch) (E : Ev) (q : Nat → Nat) (hq : Dq q) {T C : Nat} (hT : T ≤ 16) (hC : 1 ≤ C ∧ C ≤ 4) (σ : St) (hI : Inv T C σ) (o : Nat) (ho : ¬ Aq q o) (t : Int32) (he : (e_X0_cpuOf T C σ t) = 0) : HN l E q σ o yL_cpuOf cL_cpuOf 4 [(0, 9, 12, 13)] rh_cpuOf [.int t] (Int32.toInt64 (f_X0_cpuOf T C σ t)) σ True := by
  refine Met.ofH (by decide) (Nat.le_of_ble_eq_true rfl) (fun p e s m args below meth c ls Q B htab hQ hPK hl => ?_)
  obtain ⟨hx, hb, hml, hr, hlocks, hown, hts⟩ := B
  have S0 : Fx p m c cL_cpuOf 4 s args RL := ⟨hx, hb, hml, hown, hts⟩
  obtain ⟨⟨hP, w0, hO⟩, hK⟩ := hPK
  have hl : lv_has ls 4 [(0, .ref (q 0)), (1, .int t), (2, .ref o)] := hl
  refine lv_aload_n hx hb dL_cpuOf_0 rfl (lv_at hl 2 rfl) ?_
  refine lv_iconst (v := 0) hx hb dL_cpuOf_1 (by decide) ?_
  refine lv_aload_n hx hb dL_cpuOf_2 rfl (lv_at hl 0 rfl) ?_
  refine lv_iload_n hx hb dL_cpuOf_3 rfl (lv_at hl 1 rfl) ?_
  refine cl_RI (k_X0_cpuOf l E q hq hT hC σ hI t he) gw_L_47 hd_X0_cpuOf ⟨rfl, rfl⟩ S0 hK hP (rest := [.int 0, .ref o]) rfl hl.1 (Nat.le_of_ble_eq_true rfl) ⟨(Nat.le_of_ble_eq_true rfl), (Nat.le_of_ble_eq_true rfl)⟩ ⟨Nat.zero_le _, Nat.zero_le _⟩ dL_cpuOf_4 (fun hex => ?_)
  refine lv_i2l (v := Int32.toInt64 (f_X0_cpuOf T C σ t)) hx hb dL_cpuOf_7 rfl ?_
  refine oj_last hx hb hK hq ho hP hO va_S.rf dL_cpuOf_8 (fun H2 locs2 hP hO hS => ?_)
  refine lv_goto (tgt := 15) hx hb dL_cpuOf_9 rfl ?_
  refine lv_iconst (v := 0) hx hb dL_cpuOf_15 (by decide) ?_
  exact rt_HN hQ hx hb hr hlocks hP hO hS hex dL_cpuOf_16
def rx_cpuOf : Room := { frames := 8, cells := 1, slots := 6, locals := 124 }
set_option maxHeartbeats 400000 in
theorem x_cpuOf (l : Launch) (hst : l.stackTraces = false) (E : Ev) (q : Nat → Nat) (hq : Dq q) {T C : Nat} (hT : T ≤ 16) (hC : 1 ≤ C ∧ C ≤ 4) (σ : St) (hI : Inv T C σ) (o : Nat) (t : Int32) (he : ¬ (e_X0_cpuOf T C σ t) = 0) : HT l E q σ o yL_cpuOf cL_cpuOf 4 [(0, 9, 12, 13)] rx_cpuOf [.int t] (e_X0_cpuOf T C σ t) := by
  refine Met.ofH (by decide) (Nat.le_of_ble_eq_true rfl) (fun p e s m args below meth c ls Q B htab hQ hPK hl => ?_)
  obtain ⟨hx, hb, hml, hr, hlocks, hown, hts⟩ := B
  have S0 : Fx p m c cL_cpuOf 4 s args RL := ⟨hx, hb, hml, hown, hts⟩
  obtain ⟨hP, hK, hX, hN⟩ := hPK
  have hl : lv_has ls 4 [(0, .ref (q 0)), (1, .int t), (2, .ref o)] := hl
  refine lv_aload_n hx hb dL_cpuOf_0 rfl (lv_at hl 2 rfl) ?_
  refine lv_iconst (v := 0) hx hb dL_cpuOf_1 (by decide) ?_
  refine lv_aload_n hx hb dL_cpuOf_2 rfl (lv_at hl 0 rfl) ?_
  refine lv_iload_n hx hb dL_cpuOf_3 rfl (lv_at hl 1 rfl) ?_
  refine hc_V (t_X0_cpuOf l hst E q hq hT hC σ hI t he) gw_L_47 hd_X0_cpuOf ⟨rfl, rfl⟩ S0 hK hP hX (rest := [.int 0, .ref o]) rfl hl.1 (Nat.le_of_ble_eq_true rfl) ⟨(Nat.le_of_ble_eq_true rfl), (Nat.le_of_ble_eq_true rfl)⟩ ⟨(Nat.le_of_ble_eq_true rfl), (Nat.le_of_ble_eq_true rfl)⟩ dL_cpuOf_4 (fun H1 q9 ce hz hk hce hcv hcl => ?_)
  have hcode := (er_cpuOf T C σ t).resolve_left he
  have hcs : (Cond.castable xIAE xIAE).before args s = true := (hX.2.1 (.castable xIAE xIAE) (by decide +kernel)).use rfl
  refine vx_catch (own := RL) (name := xIAE) (E := xIAE) hown [] ⟨0, 9, 12, 13⟩ [] htab (fun _ h => nomatch h) (by decide) (by decide) (hts _ cl_L_13) hcs hce hcv (by rw [hcode] at hcl; exact hcl) ?_
  show W p l e _ s m args below meth c H1 [] 1 6 Q (F0 m 12 ls [.ref q9])
  refine lv_astore_n (i := 3) hx hb dL_cpuOf_12 rfl hl (by decide) rfl (fun ls hl => ?_)
  refine lv_iconst (v := 1) hx hb dL_cpuOf_13 (by decide) ?_
  exact rt_HT hQ hx hb hr hlocks hz hk hcode.symm dL_cpuOf_14
theorem er_virtualTime (T C : Nat) (σ : St) (t : Int32) : (e_X0_virtualTime T C σ t) = 0 ∨ (e_X0_virtualTime T C σ t) = 1 := by
  unfold e_X0_virtualTime
  repeat' split
  all_goals first | exact Or.inl rfl | exact Or.inr rfl
def rh_virtualTime : Room := { frames := 2, cells := 0, slots := 0, locals := 42 }
set_option maxHeartbeats 400000 in
theorem h_virtualTime (l : Launch) (E : Ev) (q : Nat → Nat) (hq : Dq q) {T C : Nat} (hT : T ≤ 16) (hC : 1 ≤ C ∧ C ≤ 4) (σ : St) (hI : Inv T C σ) (o : Nat) (ho : ¬ Aq q o) (t : Int32) (he : (e_X0_virtualTime T C σ t) = 0) : HN l E q σ o yL_virtualTime cL_virtualTime 4 [(0, 8, 11, 13)] rh_virtualTime [.int t] (f_X0_virtualTime T C σ t) σ True := by
  refine Met.ofH (by decide) (Nat.le_of_ble_eq_true rfl) (fun p e s m args below meth c ls Q B htab hQ hPK hl => ?_)
  obtain ⟨hx, hb, hml, hr, hlocks, hown, hts⟩ := B
  have S0 : Fx p m c cL_virtualTime 4 s args RL := ⟨hx, hb, hml, hown, hts⟩
  obtain ⟨⟨hP, w0, hO⟩, hK⟩ := hPK
  have hl : lv_has ls 4 [(0, .ref (q 0)), (1, .int t), (2, .ref o)] := hl
  refine lv_aload_n hx hb dL_virtualTime_0 rfl (lv_at hl 2 rfl) ?_
  refine lv_iconst (v := 0) hx hb dL_virtualTime_1 (by decide) ?_
  refine lv_aload_n hx hb dL_virtualTime_2 rfl (lv_at hl 0 rfl) ?_
  refine lv_iload_n hx hb dL_virtualTime_3 rfl (lv_at hl 1 rfl) ?_
  refine cl_RJ (k_X0_virtualTime l E q hq hT hC σ hI t he) gw_L_50 hd_X0_virtualTime ⟨rfl, rfl⟩ S0 hK hP (rest := [.int 0, .ref o]) rfl hl.1 (Nat.le_of_ble_eq_true rfl) ⟨(Nat.le_of_ble_eq_true rfl), (Nat.le_of_ble_eq_true rfl)⟩ ⟨Nat.zero_le _, Nat.zero_le _⟩ dL_virtualTime_4 (fun hex => ?_)
  refine oj_last hx hb hK hq ho hP hO va_S.rf dL_virtualTime_7 (fun H2 locs2 hP hO hS => ?_)
  refine lv_goto (tgt := 14) hx hb dL_virtualTime_8 rfl ?_
  refine lv_iconst (v := 0) hx hb dL_virtualTime_14 (by decide) ?_
  exact rt_HN hQ hx hb hr hlocks hP hO hS hex dL_virtualTime_15
def rx_virtualTime : Room := { frames := 8, cells := 1, slots := 6, locals := 124 }
set_option maxHeartbeats 400000 in
theorem x_virtualTime (l : Launch) (hst : l.stackTraces = false) (E : Ev) (q : Nat → Nat) (hq : Dq q) {T C : Nat} (hT : T ≤ 16) (hC : 1 ≤ C ∧ C ≤ 4) (σ : St) (hI : Inv T C σ) (o : Nat) (t : Int32) (he : ¬ (e_X0_virtualTime T C σ t) = 0) : HT l E q σ o yL_virtualTime cL_virtualTime 4 [(0, 8, 11, 13)] rx_virtualTime [.int t] (e_X0_virtualTime T C σ t) := by
  refine Met.ofH (by decide) (Nat.le_of_ble_eq_true rfl) (fun p e s m args below meth c ls Q B htab hQ hPK hl => ?_)
  obtain ⟨hx, hb, hml, hr, hlocks, hown, hts⟩ := B
  have S0 : Fx p m c cL_virtualTime 4 s args RL := ⟨hx, hb, hml, hown, hts⟩
  obtain ⟨hP, hK, hX, hN⟩ := hPK
  have hl : lv_has ls 4 [(0, .ref (q 0)), (1, .int t), (2, .ref o)] := hl
  refine lv_aload_n hx hb dL_virtualTime_0 rfl (lv_at hl 2 rfl) ?_
  refine lv_iconst (v := 0) hx hb dL_virtualTime_1 (by decide) ?_
  refine lv_aload_n hx hb dL_virtualTime_2 rfl (lv_at hl 0 rfl) ?_
  refine lv_iload_n hx hb dL_virtualTime_3 rfl (lv_at hl 1 rfl) ?_
  refine hc_V (t_X0_virtualTime l hst E q hq hT hC σ hI t he) gw_L_50 hd_X0_virtualTime ⟨rfl, rfl⟩ S0 hK hP hX (rest := [.int 0, .ref o]) rfl hl.1 (Nat.le_of_ble_eq_true rfl) ⟨(Nat.le_of_ble_eq_true rfl), (Nat.le_of_ble_eq_true rfl)⟩ ⟨(Nat.le_of_ble_eq_true rfl), (Nat.le_of_ble_eq_true rfl)⟩ dL_virtualTime_4 (fun H1 q9 ce hz hk hce hcv hcl => ?_)
  have hcode := (er_virtualTime T C σ t).resolve_left he
  have hcs : (Cond.castable xIAE xIAE).before args s = true := (hX.2.1 (.castable xIAE xIAE) (by decide +kernel)).use rfl
  refine vx_catch (own := RL) (name := xIAE) (E := xIAE) hown [] ⟨0, 8, 11, 13⟩ [] htab (fun _ h => nomatch h) (by decide) (by decide) (hts _ cl_L_13) hcs hce hcv (by rw [hcode] at hcl; exact hcl) ?_
  show W p l e _ s m args below meth c H1 [] 1 6 Q (F0 m 11 ls [.ref q9])
  refine lv_astore_n (i := 3) hx hb dL_virtualTime_11 rfl hl (by decide) rfl (fun ls hl => ?_)
  refine lv_iconst (v := 1) hx hb dL_virtualTime_12 (by decide) ?_
  exact rt_HT hQ hx hb hr hlocks hz hk hcode.symm dL_virtualTime_13
theorem er_runTicks (T C : Nat) (σ : St) (t : Int32) : (e_X0_runTicks T C σ t) = 0 ∨ (e_X0_runTicks T C σ t) = 1 := by
  unfold e_X0_runTicks
  repeat' split
  all_goals first | exact Or.inl rfl | exact Or.inr rfl
def rh_runTicks : Room := { frames := 2, cells := 0, slots := 0, locals := 42 }
set_option maxHeartbeats 400000 in
theorem h_runTicks (l : Launch) (E : Ev) (q : Nat → Nat) (hq : Dq q) {T C : Nat} (hT : T ≤ 16) (hC : 1 ≤ C ∧ C ≤ 4) (σ : St) (hI : Inv T C σ) (o : Nat) (ho : ¬ Aq q o) (t : Int32) (he : (e_X0_runTicks T C σ t) = 0) : HN l E q σ o yL_runTicks cL_runTicks 4 [(0, 9, 12, 13)] rh_runTicks [.int t] (Int32.toInt64 (f_X0_runTicks T C σ t)) σ True := by
  refine Met.ofH (by decide) (Nat.le_of_ble_eq_true rfl) (fun p e s m args below meth c ls Q B htab hQ hPK hl => ?_)
  obtain ⟨hx, hb, hml, hr, hlocks, hown, hts⟩ := B
  have S0 : Fx p m c cL_runTicks 4 s args RL := ⟨hx, hb, hml, hown, hts⟩
  obtain ⟨⟨hP, w0, hO⟩, hK⟩ := hPK
  have hl : lv_has ls 4 [(0, .ref (q 0)), (1, .int t), (2, .ref o)] := hl
  refine lv_aload_n hx hb dL_runTicks_0 rfl (lv_at hl 2 rfl) ?_
  refine lv_iconst (v := 0) hx hb dL_runTicks_1 (by decide) ?_
  refine lv_aload_n hx hb dL_runTicks_2 rfl (lv_at hl 0 rfl) ?_
  refine lv_iload_n hx hb dL_runTicks_3 rfl (lv_at hl 1 rfl) ?_
  refine cl_RI (k_X0_runTicks l E q hq hT hC σ hI t he) gw_L_53 hd_X0_runTicks ⟨rfl, rfl⟩ S0 hK hP (rest := [.int 0, .ref o]) rfl hl.1 (Nat.le_of_ble_eq_true rfl) ⟨(Nat.le_of_ble_eq_true rfl), (Nat.le_of_ble_eq_true rfl)⟩ ⟨Nat.zero_le _, Nat.zero_le _⟩ dL_runTicks_4 (fun hex => ?_)
  refine lv_i2l (v := Int32.toInt64 (f_X0_runTicks T C σ t)) hx hb dL_runTicks_7 rfl ?_
  refine oj_last hx hb hK hq ho hP hO va_S.rf dL_runTicks_8 (fun H2 locs2 hP hO hS => ?_)
  refine lv_goto (tgt := 15) hx hb dL_runTicks_9 rfl ?_
  refine lv_iconst (v := 0) hx hb dL_runTicks_15 (by decide) ?_
  exact rt_HN hQ hx hb hr hlocks hP hO hS hex dL_runTicks_16
def rx_runTicks : Room := { frames := 8, cells := 1, slots := 6, locals := 124 }
set_option maxHeartbeats 400000 in
theorem x_runTicks (l : Launch) (hst : l.stackTraces = false) (E : Ev) (q : Nat → Nat) (hq : Dq q) {T C : Nat} (hT : T ≤ 16) (hC : 1 ≤ C ∧ C ≤ 4) (σ : St) (hI : Inv T C σ) (o : Nat) (t : Int32) (he : ¬ (e_X0_runTicks T C σ t) = 0) : HT l E q σ o yL_runTicks cL_runTicks 4 [(0, 9, 12, 13)] rx_runTicks [.int t] (e_X0_runTicks T C σ t) := by
  refine Met.ofH (by decide) (Nat.le_of_ble_eq_true rfl) (fun p e s m args below meth c ls Q B htab hQ hPK hl => ?_)
  obtain ⟨hx, hb, hml, hr, hlocks, hown, hts⟩ := B
  have S0 : Fx p m c cL_runTicks 4 s args RL := ⟨hx, hb, hml, hown, hts⟩
  obtain ⟨hP, hK, hX, hN⟩ := hPK
  have hl : lv_has ls 4 [(0, .ref (q 0)), (1, .int t), (2, .ref o)] := hl
  refine lv_aload_n hx hb dL_runTicks_0 rfl (lv_at hl 2 rfl) ?_
  refine lv_iconst (v := 0) hx hb dL_runTicks_1 (by decide) ?_
  refine lv_aload_n hx hb dL_runTicks_2 rfl (lv_at hl 0 rfl) ?_
  refine lv_iload_n hx hb dL_runTicks_3 rfl (lv_at hl 1 rfl) ?_
  refine hc_V (t_X0_runTicks l hst E q hq hT hC σ hI t he) gw_L_53 hd_X0_runTicks ⟨rfl, rfl⟩ S0 hK hP hX (rest := [.int 0, .ref o]) rfl hl.1 (Nat.le_of_ble_eq_true rfl) ⟨(Nat.le_of_ble_eq_true rfl), (Nat.le_of_ble_eq_true rfl)⟩ ⟨(Nat.le_of_ble_eq_true rfl), (Nat.le_of_ble_eq_true rfl)⟩ dL_runTicks_4 (fun H1 q9 ce hz hk hce hcv hcl => ?_)
  have hcode := (er_runTicks T C σ t).resolve_left he
  have hcs : (Cond.castable xIAE xIAE).before args s = true := (hX.2.1 (.castable xIAE xIAE) (by decide +kernel)).use rfl
  refine vx_catch (own := RL) (name := xIAE) (E := xIAE) hown [] ⟨0, 9, 12, 13⟩ [] htab (fun _ h => nomatch h) (by decide) (by decide) (hts _ cl_L_13) hcs hce hcv (by rw [hcode] at hcl; exact hcl) ?_
  show W p l e _ s m args below meth c H1 [] 1 6 Q (F0 m 12 ls [.ref q9])
  refine lv_astore_n (i := 3) hx hb dL_runTicks_12 rfl hl (by decide) rfl (fun ls hl => ?_)
  refine lv_iconst (v := 1) hx hb dL_runTicks_13 (by decide) ?_
  exact rt_HT hQ hx hb hr hlocks hz hk hcode.symm dL_runTicks_14
theorem er_waitTicks (T C : Nat) (σ : St) (t : Int32) : (e_X0_waitTicks T C σ t) = 0 ∨ (e_X0_waitTicks T C σ t) = 1 := by
  unfold e_X0_waitTicks
  repeat' split
  all_goals first | exact Or.inl rfl | exact Or.inr rfl
def rh_waitTicks : Room := { frames := 2, cells := 0, slots := 0, locals := 42 }
set_option maxHeartbeats 400000 in
theorem h_waitTicks (l : Launch) (E : Ev) (q : Nat → Nat) (hq : Dq q) {T C : Nat} (hT : T ≤ 16) (hC : 1 ≤ C ∧ C ≤ 4) (σ : St) (hI : Inv T C σ) (o : Nat) (ho : ¬ Aq q o) (t : Int32) (he : (e_X0_waitTicks T C σ t) = 0) : HN l E q σ o yL_waitTicks cL_waitTicks 4 [(0, 9, 12, 13)] rh_waitTicks [.int t] (Int32.toInt64 (f_X0_waitTicks T C σ t)) σ True := by
  refine Met.ofH (by decide) (Nat.le_of_ble_eq_true rfl) (fun p e s m args below meth c ls Q B htab hQ hPK hl => ?_)
  obtain ⟨hx, hb, hml, hr, hlocks, hown, hts⟩ := B
  have S0 : Fx p m c cL_waitTicks 4 s args RL := ⟨hx, hb, hml, hown, hts⟩
  obtain ⟨⟨hP, w0, hO⟩, hK⟩ := hPK
  have hl : lv_has ls 4 [(0, .ref (q 0)), (1, .int t), (2, .ref o)] := hl
  refine lv_aload_n hx hb dL_waitTicks_0 rfl (lv_at hl 2 rfl) ?_
  refine lv_iconst (v := 0) hx hb dL_waitTicks_1 (by decide) ?_
  refine lv_aload_n hx hb dL_waitTicks_2 rfl (lv_at hl 0 rfl) ?_
  refine lv_iload_n hx hb dL_waitTicks_3 rfl (lv_at hl 1 rfl) ?_
  refine cl_RI (k_X0_waitTicks l E q hq hT hC σ hI t he) gw_L_56 hd_X0_waitTicks ⟨rfl, rfl⟩ S0 hK hP (rest := [.int 0, .ref o]) rfl hl.1 (Nat.le_of_ble_eq_true rfl) ⟨(Nat.le_of_ble_eq_true rfl), (Nat.le_of_ble_eq_true rfl)⟩ ⟨Nat.zero_le _, Nat.zero_le _⟩ dL_waitTicks_4 (fun hex => ?_)
  refine lv_i2l (v := Int32.toInt64 (f_X0_waitTicks T C σ t)) hx hb dL_waitTicks_7 rfl ?_
  refine oj_last hx hb hK hq ho hP hO va_S.rf dL_waitTicks_8 (fun H2 locs2 hP hO hS => ?_)
  refine lv_goto (tgt := 15) hx hb dL_waitTicks_9 rfl ?_
  refine lv_iconst (v := 0) hx hb dL_waitTicks_15 (by decide) ?_
  exact rt_HN hQ hx hb hr hlocks hP hO hS hex dL_waitTicks_16
def rx_waitTicks : Room := { frames := 8, cells := 1, slots := 6, locals := 124 }
set_option maxHeartbeats 400000 in
theorem x_waitTicks (l : Launch) (hst : l.stackTraces = false) (E : Ev) (q : Nat → Nat) (hq : Dq q) {T C : Nat} (hT : T ≤ 16) (hC : 1 ≤ C ∧ C ≤ 4) (σ : St) (hI : Inv T C σ) (o : Nat) (t : Int32) (he : ¬ (e_X0_waitTicks T C σ t) = 0) : HT l E q σ o yL_waitTicks cL_waitTicks 4 [(0, 9, 12, 13)] rx_waitTicks [.int t] (e_X0_waitTicks T C σ t) := by
  refine Met.ofH (by decide) (Nat.le_of_ble_eq_true rfl) (fun p e s m args below meth c ls Q B htab hQ hPK hl => ?_)
  obtain ⟨hx, hb, hml, hr, hlocks, hown, hts⟩ := B
  have S0 : Fx p m c cL_waitTicks 4 s args RL := ⟨hx, hb, hml, hown, hts⟩
  obtain ⟨hP, hK, hX, hN⟩ := hPK
  have hl : lv_has ls 4 [(0, .ref (q 0)), (1, .int t), (2, .ref o)] := hl
  refine lv_aload_n hx hb dL_waitTicks_0 rfl (lv_at hl 2 rfl) ?_
  refine lv_iconst (v := 0) hx hb dL_waitTicks_1 (by decide) ?_
  refine lv_aload_n hx hb dL_waitTicks_2 rfl (lv_at hl 0 rfl) ?_
  refine lv_iload_n hx hb dL_waitTicks_3 rfl (lv_at hl 1 rfl) ?_
  refine hc_V (t_X0_waitTicks l hst E q hq hT hC σ hI t he) gw_L_56 hd_X0_waitTicks ⟨rfl, rfl⟩ S0 hK hP hX (rest := [.int 0, .ref o]) rfl hl.1 (Nat.le_of_ble_eq_true rfl) ⟨(Nat.le_of_ble_eq_true rfl), (Nat.le_of_ble_eq_true rfl)⟩ ⟨(Nat.le_of_ble_eq_true rfl), (Nat.le_of_ble_eq_true rfl)⟩ dL_waitTicks_4 (fun H1 q9 ce hz hk hce hcv hcl => ?_)
  have hcode := (er_waitTicks T C σ t).resolve_left he
  have hcs : (Cond.castable xIAE xIAE).before args s = true := (hX.2.1 (.castable xIAE xIAE) (by decide +kernel)).use rfl
  refine vx_catch (own := RL) (name := xIAE) (E := xIAE) hown [] ⟨0, 9, 12, 13⟩ [] htab (fun _ h => nomatch h) (by decide) (by decide) (hts _ cl_L_13) hcs hce hcv (by rw [hcode] at hcl; exact hcl) ?_
  show W p l e _ s m args below meth c H1 [] 1 6 Q (F0 m 12 ls [.ref q9])
  refine lv_astore_n (i := 3) hx hb dL_waitTicks_12 rfl hl (by decide) rfl (fun ls hl => ?_)
  refine lv_iconst (v := 1) hx hb dL_waitTicks_13 (by decide) ?_
  exact rt_HT hQ hx hb hr hlocks hz hk hcode.symm dL_waitTicks_14
theorem er_runningTask (T C : Nat) (σ : St) (c9 : Int32) : (e_X0_runningTask T C σ c9) = 0 ∨ (e_X0_runningTask T C σ c9) = 1 := by
  unfold e_X0_runningTask
  repeat' split
  all_goals first | exact Or.inl rfl | exact Or.inr rfl
def rh_runningTask : Room := { frames := 3, cells := 0, slots := 0, locals := 62 }
set_option maxHeartbeats 400000 in
theorem h_runningTask (l : Launch) (E : Ev) (q : Nat → Nat) (hq : Dq q) {T C : Nat} (hT : T ≤ 16) (hC : 1 ≤ C ∧ C ≤ 4) (σ : St) (hI : Inv T C σ) (o : Nat) (ho : ¬ Aq q o) (c9 : Int32) (he : (e_X0_runningTask T C σ c9) = 0) : HN l E q σ o yL_runningTask cL_runningTask 4 [(0, 9, 12, 13)] rh_runningTask [.int c9] (Int32.toInt64 (f_X0_runningTask T C σ c9)) σ True := by
  refine Met.ofH (by decide) (Nat.le_of_ble_eq_true rfl) (fun p e s m args below meth c ls Q B htab hQ hPK hl => ?_)
  obtain ⟨hx, hb, hml, hr, hlocks, hown, hts⟩ := B
  have S0 : Fx p m c cL_runningTask 4 s args RL := ⟨hx, hb, hml, hown, hts⟩
  obtain ⟨⟨hP, w0, hO⟩, hK⟩ := hPK
  have hl : lv_has ls 4 [(0, .ref (q 0)), (1, .int c9), (2, .ref o)] := hl
  refine lv_aload_n hx hb dL_runningTask_0 rfl (lv_at hl 2 rfl) ?_
  refine lv_iconst (v := 0) hx hb dL_runningTask_1 (by decide) ?_
  refine lv_aload_n hx hb dL_runningTask_2 rfl (lv_at hl 0 rfl) ?_
  refine lv_iload_n hx hb dL_runningTask_3 rfl (lv_at hl 1 rfl) ?_
  refine cl_RI (k_X0_runningTask l E q hq hT hC σ hI c9 he) gw_L_63 hd_X0_runningTask ⟨rfl, rfl⟩ S0 hK hP (rest := [.int 0, .ref o]) rfl hl.1 (Nat.le_of_ble_eq_true rfl) ⟨(Nat.le_of_ble_eq_true rfl), (Nat.le_of_ble_eq_true rfl)⟩ ⟨Nat.zero_le _, Nat.zero_le _⟩ dL_runningTask_4 (fun hex => ?_)
  refine lv_i2l (v := Int32.toInt64 (f_X0_runningTask T C σ c9)) hx hb dL_runningTask_7 rfl ?_
  refine oj_last hx hb hK hq ho hP hO va_S.rf dL_runningTask_8 (fun H2 locs2 hP hO hS => ?_)
  refine lv_goto (tgt := 15) hx hb dL_runningTask_9 rfl ?_
  refine lv_iconst (v := 0) hx hb dL_runningTask_15 (by decide) ?_
  exact rt_HN hQ hx hb hr hlocks hP hO hS hex dL_runningTask_16
def rx_runningTask : Room := { frames := 8, cells := 1, slots := 6, locals := 124 }
set_option maxHeartbeats 400000 in
theorem x_runningTask (l : Launch) (hst : l.stackTraces = false) (E : Ev) (q : Nat → Nat) (hq : Dq q) {T C : Nat} (hT : T ≤ 16) (hC : 1 ≤ C ∧ C ≤ 4) (σ : St) (hI : Inv T C σ) (o : Nat) (c9 : Int32) (he : ¬ (e_X0_runningTask T C σ c9) = 0) : HT l E q σ o yL_runningTask cL_runningTask 4 [(0, 9, 12, 13)] rx_runningTask [.int c9] (e_X0_runningTask T C σ c9) := by
  refine Met.ofH (by decide) (Nat.le_of_ble_eq_true rfl) (fun p e s m args below meth c ls Q B htab hQ hPK hl => ?_)
  obtain ⟨hx, hb, hml, hr, hlocks, hown, hts⟩ := B
  have S0 : Fx p m c cL_runningTask 4 s args RL := ⟨hx, hb, hml, hown, hts⟩
  obtain ⟨hP, hK, hX, hN⟩ := hPK
  have hl : lv_has ls 4 [(0, .ref (q 0)), (1, .int c9), (2, .ref o)] := hl
  refine lv_aload_n hx hb dL_runningTask_0 rfl (lv_at hl 2 rfl) ?_
  refine lv_iconst (v := 0) hx hb dL_runningTask_1 (by decide) ?_
  refine lv_aload_n hx hb dL_runningTask_2 rfl (lv_at hl 0 rfl) ?_
  refine lv_iload_n hx hb dL_runningTask_3 rfl (lv_at hl 1 rfl) ?_
  refine hc_V (t_X0_runningTask l hst E q hq hT hC σ hI c9 he) gw_L_63 hd_X0_runningTask ⟨rfl, rfl⟩ S0 hK hP hX (rest := [.int 0, .ref o]) rfl hl.1 (Nat.le_of_ble_eq_true rfl) ⟨(Nat.le_of_ble_eq_true rfl), (Nat.le_of_ble_eq_true rfl)⟩ ⟨(Nat.le_of_ble_eq_true rfl), (Nat.le_of_ble_eq_true rfl)⟩ dL_runningTask_4 (fun H1 q9 ce hz hk hce hcv hcl => ?_)
  have hcode := (er_runningTask T C σ c9).resolve_left he
  have hcs : (Cond.castable xIAE xIAE).before args s = true := (hX.2.1 (.castable xIAE xIAE) (by decide +kernel)).use rfl
  refine vx_catch (own := RL) (name := xIAE) (E := xIAE) hown [] ⟨0, 9, 12, 13⟩ [] htab (fun _ h => nomatch h) (by decide) (by decide) (hts _ cl_L_13) hcs hce hcv (by rw [hcode] at hcl; exact hcl) ?_
  show W p l e _ s m args below meth c H1 [] 1 6 Q (F0 m 12 ls [.ref q9])
  refine lv_astore_n (i := 3) hx hb dL_runningTask_12 rfl hl (by decide) rfl (fun ls hl => ?_)
  refine lv_iconst (v := 1) hx hb dL_runningTask_13 (by decide) ?_
  exact rt_HT hQ hx hb hr hlocks hz hk hcode.symm dL_runningTask_14
theorem er_coreCookie (T C : Nat) (σ : St) (c9 : Int32) : (e_X0_coreCookie T C σ c9) = 0 ∨ (e_X0_coreCookie T C σ c9) = 1 := by
  unfold e_X0_coreCookie
  repeat' split
  all_goals first | exact Or.inl rfl | exact Or.inr rfl
def rh_coreCookie : Room := { frames := 2, cells := 0, slots := 0, locals := 42 }
set_option maxHeartbeats 400000 in
theorem h_coreCookie (l : Launch) (E : Ev) (q : Nat → Nat) (hq : Dq q) {T C : Nat} (hT : T ≤ 16) (hC : 1 ≤ C ∧ C ≤ 4) (σ : St) (hI : Inv T C σ) (o : Nat) (ho : ¬ Aq q o) (c9 : Int32) (he : (e_X0_coreCookie T C σ c9) = 0) : HN l E q σ o yL_coreCookie cL_coreCookie 4 [(0, 9, 12, 13)] rh_coreCookie [.int c9] (Int32.toInt64 (f_X0_coreCookie T C σ c9)) σ True := by
  refine Met.ofH (by decide) (Nat.le_of_ble_eq_true rfl) (fun p e s m args below meth c ls Q B htab hQ hPK hl => ?_)
  obtain ⟨hx, hb, hml, hr, hlocks, hown, hts⟩ := B
  have S0 : Fx p m c cL_coreCookie 4 s args RL := ⟨hx, hb, hml, hown, hts⟩
  obtain ⟨⟨hP, w0, hO⟩, hK⟩ := hPK
  have hl : lv_has ls 4 [(0, .ref (q 0)), (1, .int c9), (2, .ref o)] := hl
  refine lv_aload_n hx hb dL_coreCookie_0 rfl (lv_at hl 2 rfl) ?_
  refine lv_iconst (v := 0) hx hb dL_coreCookie_1 (by decide) ?_
  refine lv_aload_n hx hb dL_coreCookie_2 rfl (lv_at hl 0 rfl) ?_
  refine lv_iload_n hx hb dL_coreCookie_3 rfl (lv_at hl 1 rfl) ?_
  refine cl_RI (k_X0_coreCookie l E q hq hT hC σ hI c9 he) gw_L_66 hd_X0_coreCookie ⟨rfl, rfl⟩ S0 hK hP (rest := [.int 0, .ref o]) rfl hl.1 (Nat.le_of_ble_eq_true rfl) ⟨(Nat.le_of_ble_eq_true rfl), (Nat.le_of_ble_eq_true rfl)⟩ ⟨Nat.zero_le _, Nat.zero_le _⟩ dL_coreCookie_4 (fun hex => ?_)
  refine lv_i2l (v := Int32.toInt64 (f_X0_coreCookie T C σ c9)) hx hb dL_coreCookie_7 rfl ?_
  refine oj_last hx hb hK hq ho hP hO va_S.rf dL_coreCookie_8 (fun H2 locs2 hP hO hS => ?_)
  refine lv_goto (tgt := 15) hx hb dL_coreCookie_9 rfl ?_
  refine lv_iconst (v := 0) hx hb dL_coreCookie_15 (by decide) ?_
  exact rt_HN hQ hx hb hr hlocks hP hO hS hex dL_coreCookie_16
def rx_coreCookie : Room := { frames := 8, cells := 1, slots := 6, locals := 124 }
set_option maxHeartbeats 400000 in
theorem x_coreCookie (l : Launch) (hst : l.stackTraces = false) (E : Ev) (q : Nat → Nat) (hq : Dq q) {T C : Nat} (hT : T ≤ 16) (hC : 1 ≤ C ∧ C ≤ 4) (σ : St) (hI : Inv T C σ) (o : Nat) (c9 : Int32) (he : ¬ (e_X0_coreCookie T C σ c9) = 0) : HT l E q σ o yL_coreCookie cL_coreCookie 4 [(0, 9, 12, 13)] rx_coreCookie [.int c9] (e_X0_coreCookie T C σ c9) := by
  refine Met.ofH (by decide) (Nat.le_of_ble_eq_true rfl) (fun p e s m args below meth c ls Q B htab hQ hPK hl => ?_)
  obtain ⟨hx, hb, hml, hr, hlocks, hown, hts⟩ := B
  have S0 : Fx p m c cL_coreCookie 4 s args RL := ⟨hx, hb, hml, hown, hts⟩
  obtain ⟨hP, hK, hX, hN⟩ := hPK
  have hl : lv_has ls 4 [(0, .ref (q 0)), (1, .int c9), (2, .ref o)] := hl
  refine lv_aload_n hx hb dL_coreCookie_0 rfl (lv_at hl 2 rfl) ?_
  refine lv_iconst (v := 0) hx hb dL_coreCookie_1 (by decide) ?_
  refine lv_aload_n hx hb dL_coreCookie_2 rfl (lv_at hl 0 rfl) ?_
  refine lv_iload_n hx hb dL_coreCookie_3 rfl (lv_at hl 1 rfl) ?_
  refine hc_V (t_X0_coreCookie l hst E q hq hT hC σ hI c9 he) gw_L_66 hd_X0_coreCookie ⟨rfl, rfl⟩ S0 hK hP hX (rest := [.int 0, .ref o]) rfl hl.1 (Nat.le_of_ble_eq_true rfl) ⟨(Nat.le_of_ble_eq_true rfl), (Nat.le_of_ble_eq_true rfl)⟩ ⟨(Nat.le_of_ble_eq_true rfl), (Nat.le_of_ble_eq_true rfl)⟩ dL_coreCookie_4 (fun H1 q9 ce hz hk hce hcv hcl => ?_)
  have hcode := (er_coreCookie T C σ c9).resolve_left he
  have hcs : (Cond.castable xIAE xIAE).before args s = true := (hX.2.1 (.castable xIAE xIAE) (by decide +kernel)).use rfl
  refine vx_catch (own := RL) (name := xIAE) (E := xIAE) hown [] ⟨0, 9, 12, 13⟩ [] htab (fun _ h => nomatch h) (by decide) (by decide) (hts _ cl_L_13) hcs hce hcv (by rw [hcode] at hcl; exact hcl) ?_
  show W p l e _ s m args below meth c H1 [] 1 6 Q (F0 m 12 ls [.ref q9])
  refine lv_astore_n (i := 3) hx hb dL_coreCookie_12 rfl hl (by decide) rfl (fun ls hl => ?_)
  refine lv_iconst (v := 1) hx hb dL_coreCookie_13 (by decide) ?_
  exact rt_HT hQ hx hb hr hlocks hz hk hcode.symm dL_coreCookie_14
theorem er_leaderOf (T C : Nat) (σ : St) (c9 : Int32) : (e_X0_leaderOf T C σ c9) = 0 ∨ (e_X0_leaderOf T C σ c9) = 1 := by
  unfold e_X0_leaderOf
  repeat' split
  all_goals first | exact Or.inl rfl | exact Or.inr rfl
def rh_leaderOf : Room := { frames := 4, cells := 0, slots := 0, locals := 91 }
set_option maxHeartbeats 400000 in
theorem h_leaderOf (l : Launch) (E : Ev) (q : Nat → Nat) (hq : Dq q) {T C : Nat} (hT : T ≤ 16) (hC : 1 ≤ C ∧ C ≤ 4) (σ : St) (hI : Inv T C σ) (o : Nat) (ho : ¬ Aq q o) (c9 : Int32) (he : (e_X0_leaderOf T C σ c9) = 0) : HN l E q σ o yL_leaderOf cL_leaderOf 4 [(0, 9, 12, 13)] rh_leaderOf [.int c9] (Int32.toInt64 (f_X0_leaderOf T C σ c9)) σ True := by
  refine Met.ofH (by decide) (Nat.le_of_ble_eq_true rfl) (fun p e s m args below meth c ls Q B htab hQ hPK hl => ?_)
  obtain ⟨hx, hb, hml, hr, hlocks, hown, hts⟩ := B
  have S0 : Fx p m c cL_leaderOf 4 s args RL := ⟨hx, hb, hml, hown, hts⟩
  obtain ⟨⟨hP, w0, hO⟩, hK⟩ := hPK
  have hl : lv_has ls 4 [(0, .ref (q 0)), (1, .int c9), (2, .ref o)] := hl
  refine lv_aload_n hx hb dL_leaderOf_0 rfl (lv_at hl 2 rfl) ?_
  refine lv_iconst (v := 0) hx hb dL_leaderOf_1 (by decide) ?_
  refine lv_aload_n hx hb dL_leaderOf_2 rfl (lv_at hl 0 rfl) ?_
  refine lv_iload_n hx hb dL_leaderOf_3 rfl (lv_at hl 1 rfl) ?_
  refine cl_RI (k_X0_leaderOf l E q hq hT hC σ hI c9 he) gw_L_69 hd_X0_leaderOf ⟨rfl, rfl⟩ S0 hK hP (rest := [.int 0, .ref o]) rfl hl.1 (Nat.le_of_ble_eq_true rfl) ⟨(Nat.le_of_ble_eq_true rfl), (Nat.le_of_ble_eq_true rfl)⟩ ⟨Nat.zero_le _, Nat.zero_le _⟩ dL_leaderOf_4 (fun hex => ?_)
  refine lv_i2l (v := Int32.toInt64 (f_X0_leaderOf T C σ c9)) hx hb dL_leaderOf_7 rfl ?_
  refine oj_last hx hb hK hq ho hP hO va_S.rf dL_leaderOf_8 (fun H2 locs2 hP hO hS => ?_)
  refine lv_goto (tgt := 15) hx hb dL_leaderOf_9 rfl ?_
  refine lv_iconst (v := 0) hx hb dL_leaderOf_15 (by decide) ?_
  exact rt_HN hQ hx hb hr hlocks hP hO hS hex dL_leaderOf_16
def rx_leaderOf : Room := { frames := 8, cells := 1, slots := 6, locals := 124 }
set_option maxHeartbeats 400000 in
theorem x_leaderOf (l : Launch) (hst : l.stackTraces = false) (E : Ev) (q : Nat → Nat) (hq : Dq q) {T C : Nat} (hT : T ≤ 16) (hC : 1 ≤ C ∧ C ≤ 4) (σ : St) (hI : Inv T C σ) (o : Nat) (c9 : Int32) (he : ¬ (e_X0_leaderOf T C σ c9) = 0) : HT l E q σ o yL_leaderOf cL_leaderOf 4 [(0, 9, 12, 13)] rx_leaderOf [.int c9] (e_X0_leaderOf T C σ c9) := by
  refine Met.ofH (by decide) (Nat.le_of_ble_eq_true rfl) (fun p e s m args below meth c ls Q B htab hQ hPK hl => ?_)
  obtain ⟨hx, hb, hml, hr, hlocks, hown, hts⟩ := B
  have S0 : Fx p m c cL_leaderOf 4 s args RL := ⟨hx, hb, hml, hown, hts⟩
  obtain ⟨hP, hK, hX, hN⟩ := hPK
  have hl : lv_has ls 4 [(0, .ref (q 0)), (1, .int c9), (2, .ref o)] := hl
  refine lv_aload_n hx hb dL_leaderOf_0 rfl (lv_at hl 2 rfl) ?_
  refine lv_iconst (v := 0) hx hb dL_leaderOf_1 (by decide) ?_
  refine lv_aload_n hx hb dL_leaderOf_2 rfl (lv_at hl 0 rfl) ?_
  refine lv_iload_n hx hb dL_leaderOf_3 rfl (lv_at hl 1 rfl) ?_
  refine hc_V (t_X0_leaderOf l hst E q hq hT hC σ hI c9 he) gw_L_69 hd_X0_leaderOf ⟨rfl, rfl⟩ S0 hK hP hX (rest := [.int 0, .ref o]) rfl hl.1 (Nat.le_of_ble_eq_true rfl) ⟨(Nat.le_of_ble_eq_true rfl), (Nat.le_of_ble_eq_true rfl)⟩ ⟨(Nat.le_of_ble_eq_true rfl), (Nat.le_of_ble_eq_true rfl)⟩ dL_leaderOf_4 (fun H1 q9 ce hz hk hce hcv hcl => ?_)
  have hcode := (er_leaderOf T C σ c9).resolve_left he
  have hcs : (Cond.castable xIAE xIAE).before args s = true := (hX.2.1 (.castable xIAE xIAE) (by decide +kernel)).use rfl
  refine vx_catch (own := RL) (name := xIAE) (E := xIAE) hown [] ⟨0, 9, 12, 13⟩ [] htab (fun _ h => nomatch h) (by decide) (by decide) (hts _ cl_L_13) hcs hce hcv (by rw [hcode] at hcl; exact hcl) ?_
  show W p l e _ s m args below meth c H1 [] 1 6 Q (F0 m 12 ls [.ref q9])
  refine lv_astore_n (i := 3) hx hb dL_leaderOf_12 rfl hl (by decide) rfl (fun ls hl => ?_)
  refine lv_iconst (v := 1) hx hb dL_leaderOf_13 (by decide) ?_
  exact rt_HT hQ hx hb hr hlocks hz hk hcode.symm dL_leaderOf_14
theorem er_queueLength (T C : Nat) (σ : St) (c9 : Int32) : (e_X0_queueLength T C σ c9) = 0 ∨ (e_X0_queueLength T C σ c9) = 1 := by
  unfold e_X0_queueLength
  repeat' split
  all_goals first | exact Or.inl rfl | exact Or.inr rfl
def rh_queueLength : Room := { frames := 4, cells := 0, slots := 0, locals := 87 }
set_option maxHeartbeats 400000 in
theorem h_queueLength (l : Launch) (E : Ev) (q : Nat → Nat) (hq : Dq q) {T C : Nat} (hT : T ≤ 16) (hC : 1 ≤ C ∧ C ≤ 4) (σ : St) (hI : Inv T C σ) (o : Nat) (ho : ¬ Aq q o) (c9 : Int32) (he : (e_X0_queueLength T C σ c9) = 0) : HN l E q σ o yL_queueLength cL_queueLength 4 [(0, 9, 12, 13)] rh_queueLength [.int c9] (Int32.toInt64 (f_X0_queueLength T C σ c9)) σ True := by
  refine Met.ofH (by decide) (Nat.le_of_ble_eq_true rfl) (fun p e s m args below meth c ls Q B htab hQ hPK hl => ?_)
  obtain ⟨hx, hb, hml, hr, hlocks, hown, hts⟩ := B
  have S0 : Fx p m c cL_queueLength 4 s args RL := ⟨hx, hb, hml, hown, hts⟩
  obtain ⟨⟨hP, w0, hO⟩, hK⟩ := hPK
  have hl : lv_has ls 4 [(0, .ref (q 0)), (1, .int c9), (2, .ref o)] := hl
  refine lv_aload_n hx hb dL_queueLength_0 rfl (lv_at hl 2 rfl) ?_
  refine lv_iconst (v := 0) hx hb dL_queueLength_1 (by decide) ?_
  refine lv_aload_n hx hb dL_queueLength_2 rfl (lv_at hl 0 rfl) ?_
  refine lv_iload_n hx hb dL_queueLength_3 rfl (lv_at hl 1 rfl) ?_
  refine cl_RI (k_X0_queueLength l E q hq hT hC σ hI c9 he) gw_L_72 hd_X0_queueLength ⟨rfl, rfl⟩ S0 hK hP (rest := [.int 0, .ref o]) rfl hl.1 (Nat.le_of_ble_eq_true rfl) ⟨(Nat.le_of_ble_eq_true rfl), (Nat.le_of_ble_eq_true rfl)⟩ ⟨Nat.zero_le _, Nat.zero_le _⟩ dL_queueLength_4 (fun hex => ?_)
  refine lv_i2l (v := Int32.toInt64 (f_X0_queueLength T C σ c9)) hx hb dL_queueLength_7 rfl ?_
  refine oj_last hx hb hK hq ho hP hO va_S.rf dL_queueLength_8 (fun H2 locs2 hP hO hS => ?_)
  refine lv_goto (tgt := 15) hx hb dL_queueLength_9 rfl ?_
  refine lv_iconst (v := 0) hx hb dL_queueLength_15 (by decide) ?_
  exact rt_HN hQ hx hb hr hlocks hP hO hS hex dL_queueLength_16
def rx_queueLength : Room := { frames := 8, cells := 1, slots := 6, locals := 124 }
set_option maxHeartbeats 400000 in
theorem x_queueLength (l : Launch) (hst : l.stackTraces = false) (E : Ev) (q : Nat → Nat) (hq : Dq q) {T C : Nat} (hT : T ≤ 16) (hC : 1 ≤ C ∧ C ≤ 4) (σ : St) (hI : Inv T C σ) (o : Nat) (c9 : Int32) (he : ¬ (e_X0_queueLength T C σ c9) = 0) : HT l E q σ o yL_queueLength cL_queueLength 4 [(0, 9, 12, 13)] rx_queueLength [.int c9] (e_X0_queueLength T C σ c9) := by
  refine Met.ofH (by decide) (Nat.le_of_ble_eq_true rfl) (fun p e s m args below meth c ls Q B htab hQ hPK hl => ?_)
  obtain ⟨hx, hb, hml, hr, hlocks, hown, hts⟩ := B
  have S0 : Fx p m c cL_queueLength 4 s args RL := ⟨hx, hb, hml, hown, hts⟩
  obtain ⟨hP, hK, hX, hN⟩ := hPK
  have hl : lv_has ls 4 [(0, .ref (q 0)), (1, .int c9), (2, .ref o)] := hl
  refine lv_aload_n hx hb dL_queueLength_0 rfl (lv_at hl 2 rfl) ?_
  refine lv_iconst (v := 0) hx hb dL_queueLength_1 (by decide) ?_
  refine lv_aload_n hx hb dL_queueLength_2 rfl (lv_at hl 0 rfl) ?_
  refine lv_iload_n hx hb dL_queueLength_3 rfl (lv_at hl 1 rfl) ?_
  refine hc_V (t_X0_queueLength l hst E q hq hT hC σ hI c9 he) gw_L_72 hd_X0_queueLength ⟨rfl, rfl⟩ S0 hK hP hX (rest := [.int 0, .ref o]) rfl hl.1 (Nat.le_of_ble_eq_true rfl) ⟨(Nat.le_of_ble_eq_true rfl), (Nat.le_of_ble_eq_true rfl)⟩ ⟨(Nat.le_of_ble_eq_true rfl), (Nat.le_of_ble_eq_true rfl)⟩ dL_queueLength_4 (fun H1 q9 ce hz hk hce hcv hcl => ?_)
  have hcode := (er_queueLength T C σ c9).resolve_left he
  have hcs : (Cond.castable xIAE xIAE).before args s = true := (hX.2.1 (.castable xIAE xIAE) (by decide +kernel)).use rfl
  refine vx_catch (own := RL) (name := xIAE) (E := xIAE) hown [] ⟨0, 9, 12, 13⟩ [] htab (fun _ h => nomatch h) (by decide) (by decide) (hts _ cl_L_13) hcs hce hcv (by rw [hcode] at hcl; exact hcl) ?_
  show W p l e _ s m args below meth c H1 [] 1 6 Q (F0 m 12 ls [.ref q9])
  refine lv_astore_n (i := 3) hx hb dL_queueLength_12 rfl hl (by decide) rfl (fun ls hl => ?_)
  refine lv_iconst (v := 1) hx hb dL_queueLength_13 (by decide) ?_
  exact rt_HT hQ hx hb hr hlocks hz hk hcode.symm dL_queueLength_14
theorem er_queuedTask (T C : Nat) (σ : St) (c9 : Int32) (x9 : Int32) : (e_X0_queuedTask T C σ c9 x9) = 0 ∨ (e_X0_queuedTask T C σ c9 x9) = 1 ∨ (e_X0_queuedTask T C σ c9 x9) = 2 := by
  unfold e_X0_queuedTask
  repeat' split
  all_goals first | exact Or.inl rfl | exact Or.inr (Or.inl rfl) | exact Or.inr (Or.inr rfl)
def rh_queuedTask : Room := { frames := 4, cells := 0, slots := 0, locals := 93 }
set_option maxHeartbeats 400000 in
theorem h_queuedTask (l : Launch) (E : Ev) (q : Nat → Nat) (hq : Dq q) {T C : Nat} (hT : T ≤ 16) (hC : 1 ≤ C ∧ C ≤ 4) (σ : St) (hI : Inv T C σ) (o : Nat) (ho : ¬ Aq q o) (c9 : Int32) (x9 : Int32) (he : (e_X0_queuedTask T C σ c9 x9) = 0) : HN l E q σ o yL_queuedTask cL_queuedTask 5 [(0, 10, 13, 13), (0, 10, 17, 78)] rh_queuedTask [.int c9, .int x9] (Int32.toInt64 (f_X0_queuedTask T C σ c9 x9)) σ True := by
  refine Met.ofH (by decide) (Nat.le_of_ble_eq_true rfl) (fun p e s m args below meth c ls Q B htab hQ hPK hl => ?_)
  obtain ⟨hx, hb, hml, hr, hlocks, hown, hts⟩ := B
  have S0 : Fx p m c cL_queuedTask 5 s args RL := ⟨hx, hb, hml, hown, hts⟩
  obtain ⟨⟨hP, w0, hO⟩, hK⟩ := hPK
  have hl : lv_has ls 5 [(0, .ref (q 0)), (1, .int c9), (2, .int x9), (3, .ref o)] := hl
  refine lv_aload_n hx hb dL_queuedTask_0 rfl (lv_at hl 3 rfl) ?_
  refine lv_iconst (v := 0) hx hb dL_queuedTask_1 (by decide) ?_
  refine lv_aload_n hx hb dL_queuedTask_2 rfl (lv_at hl 0 rfl) ?_
  refine lv_iload_n hx hb dL_queuedTask_3 rfl (lv_at hl 1 rfl) ?_
  refine lv_iload_n hx hb dL_queuedTask_4 rfl (lv_at hl 2 rfl) ?_
  refine cl_RI (k_X0_queuedTask l E q hq hT hC σ hI c9 x9 he) gw_L_75 hd_X0_queuedTask ⟨rfl, rfl⟩ S0 hK hP (rest := [.int 0, .ref o]) rfl hl.1 (Nat.le_of_ble_eq_true rfl) ⟨(Nat.le_of_ble_eq_true rfl), (Nat.le_of_ble_eq_true rfl)⟩ ⟨Nat.zero_le _, Nat.zero_le _⟩ dL_queuedTask_5 (fun hex => ?_)
  refine lv_i2l (v := Int32.toInt64 (f_X0_queuedTask T C σ c9 x9)) hx hb dL_queuedTask_8 rfl ?_
  refine oj_last hx hb hK hq ho hP hO va_S.rf dL_queuedTask_9 (fun H2 locs2 hP hO hS => ?_)
  refine lv_goto (tgt := 21) hx hb dL_queuedTask_10 rfl ?_
  refine lv_iconst (v := 0) hx hb dL_queuedTask_21 (by decide) ?_
  exact rt_HN hQ hx hb hr hlocks hP hO hS hex dL_queuedTask_22
def rx_queuedTask : Room := { frames := 8, cells := 1, slots := 6, locals := 126 }
set_option maxHeartbeats 400000 in
theorem x_queuedTask (l : Launch) (hst : l.stackTraces = false) (E : Ev) (q : Nat → Nat) (hq : Dq q) {T C : Nat} (hT : T ≤ 16) (hC : 1 ≤ C ∧ C ≤ 4) (σ : St) (hI : Inv T C σ) (o : Nat) (c9 : Int32) (x9 : Int32) (he : ¬ (e_X0_queuedTask T C σ c9 x9) = 0) : HT l E q σ o yL_queuedTask cL_queuedTask 5 [(0, 10, 13, 13), (0, 10, 17, 78)] rx_queuedTask [.int c9, .int x9] (e_X0_queuedTask T C σ c9 x9) := by
  refine Met.ofH (by decide) (Nat.le_of_ble_eq_true rfl) (fun p e s m args below meth c ls Q B htab hQ hPK hl => ?_)
  obtain ⟨hx, hb, hml, hr, hlocks, hown, hts⟩ := B
  have S0 : Fx p m c cL_queuedTask 5 s args RL := ⟨hx, hb, hml, hown, hts⟩
  obtain ⟨hP, hK, hX, hN⟩ := hPK
  have hl : lv_has ls 5 [(0, .ref (q 0)), (1, .int c9), (2, .int x9), (3, .ref o)] := hl
  refine lv_aload_n hx hb dL_queuedTask_0 rfl (lv_at hl 3 rfl) ?_
  refine lv_iconst (v := 0) hx hb dL_queuedTask_1 (by decide) ?_
  refine lv_aload_n hx hb dL_queuedTask_2 rfl (lv_at hl 0 rfl) ?_
  refine lv_iload_n hx hb dL_queuedTask_3 rfl (lv_at hl 1 rfl) ?_
  refine lv_iload_n hx hb dL_queuedTask_4 rfl (lv_at hl 2 rfl) ?_
  refine hc_V (t_X0_queuedTask l hst E q hq hT hC σ hI c9 x9 he) gw_L_75 hd_X0_queuedTask ⟨rfl, rfl⟩ S0 hK hP hX (rest := [.int 0, .ref o]) rfl hl.1 (Nat.le_of_ble_eq_true rfl) ⟨(Nat.le_of_ble_eq_true rfl), (Nat.le_of_ble_eq_true rfl)⟩ ⟨(Nat.le_of_ble_eq_true rfl), (Nat.le_of_ble_eq_true rfl)⟩ dL_queuedTask_5 (fun H1 q9 ce hz hk hce hcv hcl => ?_)
  rcases er_queuedTask T C σ c9 x9 with hcode | hcode | hcode
  · exact absurd hcode he
  · have hcs : (Cond.castable xIAE xIAE).before args s = true := (hX.2.1 (.castable xIAE xIAE) (by decide +kernel)).use rfl
    refine vx_catch (own := RL) (name := xIAE) (E := xIAE) hown [] ⟨0, 10, 13, 13⟩ [⟨0, 10, 17, 78⟩] htab (fun _ h => nomatch h) (by decide) (by decide) (hts _ cl_L_13) hcs hce hcv (by rw [hcode] at hcl; exact hcl) ?_
    show W p l e _ s m args below meth c H1 [] 1 6 Q (F0 m 13 ls [.ref q9])
    refine lv_astore hx hb dL_queuedTask_13 hl (by decide) rfl (fun ls hl => ?_)
    refine lv_iconst (v := 1) hx hb dL_queuedTask_15 (by decide) ?_
    exact rt_HT hQ hx hb hr hlocks hz hk hcode.symm dL_queuedTask_16
  · have hcs : (Cond.castable xIOO xIOO).before args s = true := (hX.2.1 (.castable xIOO xIOO) (by decide +kernel)).use rfl
    refine vx_catch (own := RL) (name := xIOO) (E := xIOO) hown [⟨0, 10, 13, 13⟩] ⟨0, 10, 17, 78⟩ [] htab (fun z hz9 => by rw [List.mem_singleton.mp hz9]; exact Or.inr ⟨by decide, xIAE, hts _ cl_L_13, hN.2⟩) (by decide) (by decide) (hts _ cl_L_78) hcs hce hcv (by rw [hcode] at hcl; exact hcl) ?_
    show W p l e _ s m args below meth c H1 [] 1 6 Q (F0 m 17 ls [.ref q9])
    refine lv_astore hx hb dL_queuedTask_17 hl (by decide) rfl (fun ls hl => ?_)
    refine lv_iconst (v := 2) hx hb dL_queuedTask_19 (by decide) ?_
    exact rt_HT hQ hx hb hr hlocks hz hk hcode.symm dL_queuedTask_20
theorem er_baseOf (T C : Nat) (σ : St) (c9 : Int32) : (e_X0_baseOf T C σ c9) = 0 ∨ (e_X0_baseOf T C σ c9) = 1 := by
  unfold e_X0_baseOf
  repeat' split
  all_goals first | exact Or.inl rfl | exact Or.inr rfl
def rh_baseOf : Room := { frames := 3, cells := 0, slots := 0, locals := 62 }
set_option maxHeartbeats 400000 in
theorem h_baseOf (l : Launch) (E : Ev) (q : Nat → Nat) (hq : Dq q) {T C : Nat} (hT : T ≤ 16) (hC : 1 ≤ C ∧ C ≤ 4) (σ : St) (hI : Inv T C σ) (o : Nat) (ho : ¬ Aq q o) (c9 : Int32) (he : (e_X0_baseOf T C σ c9) = 0) : HN l E q σ o yL_baseOf cL_baseOf 4 [(0, 8, 11, 13)] rh_baseOf [.int c9] (f_X0_baseOf T C σ c9) σ True := by
  refine Met.ofH (by decide) (Nat.le_of_ble_eq_true rfl) (fun p e s m args below meth c ls Q B htab hQ hPK hl => ?_)
  obtain ⟨hx, hb, hml, hr, hlocks, hown, hts⟩ := B
  have S0 : Fx p m c cL_baseOf 4 s args RL := ⟨hx, hb, hml, hown, hts⟩
  obtain ⟨⟨hP, w0, hO⟩, hK⟩ := hPK
  have hl : lv_has ls 4 [(0, .ref (q 0)), (1, .int c9), (2, .ref o)] := hl
  refine lv_aload_n hx hb dL_baseOf_0 rfl (lv_at hl 2 rfl) ?_
  refine lv_iconst (v := 0) hx hb dL_baseOf_1 (by decide) ?_
  refine lv_aload_n hx hb dL_baseOf_2 rfl (lv_at hl 0 rfl) ?_
  refine lv_iload_n hx hb dL_baseOf_3 rfl (lv_at hl 1 rfl) ?_
  refine cl_RJ (k_X0_baseOf l E q hq hT hC σ hI c9 he) gw_L_80 hd_X0_baseOf ⟨rfl, rfl⟩ S0 hK hP (rest := [.int 0, .ref o]) rfl hl.1 (Nat.le_of_ble_eq_true rfl) ⟨(Nat.le_of_ble_eq_true rfl), (Nat.le_of_ble_eq_true rfl)⟩ ⟨Nat.zero_le _, Nat.zero_le _⟩ dL_baseOf_4 (fun hex => ?_)
  refine oj_last hx hb hK hq ho hP hO va_S.rf dL_baseOf_7 (fun H2 locs2 hP hO hS => ?_)
  refine lv_goto (tgt := 14) hx hb dL_baseOf_8 rfl ?_
  refine lv_iconst (v := 0) hx hb dL_baseOf_14 (by decide) ?_
  exact rt_HN hQ hx hb hr hlocks hP hO hS hex dL_baseOf_15
def rx_baseOf : Room := { frames := 8, cells := 1, slots := 6, locals := 124 }
set_option maxHeartbeats 400000 in
theorem x_baseOf (l : Launch) (hst : l.stackTraces = false) (E : Ev) (q : Nat → Nat) (hq : Dq q) {T C : Nat} (hT : T ≤ 16) (hC : 1 ≤ C ∧ C ≤ 4) (σ : St) (hI : Inv T C σ) (o : Nat) (c9 : Int32) (he : ¬ (e_X0_baseOf T C σ c9) = 0) : HT l E q σ o yL_baseOf cL_baseOf 4 [(0, 8, 11, 13)] rx_baseOf [.int c9] (e_X0_baseOf T C σ c9) := by
  refine Met.ofH (by decide) (Nat.le_of_ble_eq_true rfl) (fun p e s m args below meth c ls Q B htab hQ hPK hl => ?_)
  obtain ⟨hx, hb, hml, hr, hlocks, hown, hts⟩ := B
  have S0 : Fx p m c cL_baseOf 4 s args RL := ⟨hx, hb, hml, hown, hts⟩
  obtain ⟨hP, hK, hX, hN⟩ := hPK
  have hl : lv_has ls 4 [(0, .ref (q 0)), (1, .int c9), (2, .ref o)] := hl
  refine lv_aload_n hx hb dL_baseOf_0 rfl (lv_at hl 2 rfl) ?_
  refine lv_iconst (v := 0) hx hb dL_baseOf_1 (by decide) ?_
  refine lv_aload_n hx hb dL_baseOf_2 rfl (lv_at hl 0 rfl) ?_
  refine lv_iload_n hx hb dL_baseOf_3 rfl (lv_at hl 1 rfl) ?_
  refine hc_V (t_X0_baseOf l hst E q hq hT hC σ hI c9 he) gw_L_80 hd_X0_baseOf ⟨rfl, rfl⟩ S0 hK hP hX (rest := [.int 0, .ref o]) rfl hl.1 (Nat.le_of_ble_eq_true rfl) ⟨(Nat.le_of_ble_eq_true rfl), (Nat.le_of_ble_eq_true rfl)⟩ ⟨(Nat.le_of_ble_eq_true rfl), (Nat.le_of_ble_eq_true rfl)⟩ dL_baseOf_4 (fun H1 q9 ce hz hk hce hcv hcl => ?_)
  have hcode := (er_baseOf T C σ c9).resolve_left he
  have hcs : (Cond.castable xIAE xIAE).before args s = true := (hX.2.1 (.castable xIAE xIAE) (by decide +kernel)).use rfl
  refine vx_catch (own := RL) (name := xIAE) (E := xIAE) hown [] ⟨0, 8, 11, 13⟩ [] htab (fun _ h => nomatch h) (by decide) (by decide) (hts _ cl_L_13) hcs hce hcv (by rw [hcode] at hcl; exact hcl) ?_
  show W p l e _ s m args below meth c H1 [] 1 6 Q (F0 m 11 ls [.ref q9])
  refine lv_astore_n (i := 3) hx hb dL_baseOf_11 rfl hl (by decide) rfl (fun ls hl => ?_)
  refine lv_iconst (v := 1) hx hb dL_baseOf_12 (by decide) ?_
  exact rt_HT hQ hx hb hr hlocks hz hk hcode.symm dL_baseOf_13
theorem er_idleTicks (T C : Nat) (σ : St) (c9 : Int32) : (e_X0_idleTicks T C σ c9) = 0 ∨ (e_X0_idleTicks T C σ c9) = 1 := by
  unfold e_X0_idleTicks
  repeat' split
  all_goals first | exact Or.inl rfl | exact Or.inr rfl
def rh_idleTicks : Room := { frames := 3, cells := 0, slots := 0, locals := 62 }
set_option maxHeartbeats 400000 in
theorem h_idleTicks (l : Launch) (E : Ev) (q : Nat → Nat) (hq : Dq q) {T C : Nat} (hT : T ≤ 16) (hC : 1 ≤ C ∧ C ≤ 4) (σ : St) (hI : Inv T C σ) (o : Nat) (ho : ¬ Aq q o) (c9 : Int32) (he : (e_X0_idleTicks T C σ c9) = 0) : HN l E q σ o yL_idleTicks cL_idleTicks 4 [(0, 9, 12, 13)] rh_idleTicks [.int c9] (Int32.toInt64 (f_X0_idleTicks T C σ c9)) σ True := by
  refine Met.ofH (by decide) (Nat.le_of_ble_eq_true rfl) (fun p e s m args below meth c ls Q B htab hQ hPK hl => ?_)
  obtain ⟨hx, hb, hml, hr, hlocks, hown, hts⟩ := B
  have S0 : Fx p m c cL_idleTicks 4 s args RL := ⟨hx, hb, hml, hown, hts⟩
  obtain ⟨⟨hP, w0, hO⟩, hK⟩ := hPK
  have hl : lv_has ls 4 [(0, .ref (q 0)), (1, .int c9), (2, .ref o)] := hl
  refine lv_aload_n hx hb dL_idleTicks_0 rfl (lv_at hl 2 rfl) ?_
  refine lv_iconst (v := 0) hx hb dL_idleTicks_1 (by decide) ?_
  refine lv_aload_n hx hb dL_idleTicks_2 rfl (lv_at hl 0 rfl) ?_
  refine lv_iload_n hx hb dL_idleTicks_3 rfl (lv_at hl 1 rfl) ?_
  refine cl_RI (k_X0_idleTicks l E q hq hT hC σ hI c9 he) gw_L_83 hd_X0_idleTicks ⟨rfl, rfl⟩ S0 hK hP (rest := [.int 0, .ref o]) rfl hl.1 (Nat.le_of_ble_eq_true rfl) ⟨(Nat.le_of_ble_eq_true rfl), (Nat.le_of_ble_eq_true rfl)⟩ ⟨Nat.zero_le _, Nat.zero_le _⟩ dL_idleTicks_4 (fun hex => ?_)
  refine lv_i2l (v := Int32.toInt64 (f_X0_idleTicks T C σ c9)) hx hb dL_idleTicks_7 rfl ?_
  refine oj_last hx hb hK hq ho hP hO va_S.rf dL_idleTicks_8 (fun H2 locs2 hP hO hS => ?_)
  refine lv_goto (tgt := 15) hx hb dL_idleTicks_9 rfl ?_
  refine lv_iconst (v := 0) hx hb dL_idleTicks_15 (by decide) ?_
  exact rt_HN hQ hx hb hr hlocks hP hO hS hex dL_idleTicks_16
def rx_idleTicks : Room := { frames := 8, cells := 1, slots := 6, locals := 124 }
set_option maxHeartbeats 400000 in
theorem x_idleTicks (l : Launch) (hst : l.stackTraces = false) (E : Ev) (q : Nat → Nat) (hq : Dq q) {T C : Nat} (hT : T ≤ 16) (hC : 1 ≤ C ∧ C ≤ 4) (σ : St) (hI : Inv T C σ) (o : Nat) (c9 : Int32) (he : ¬ (e_X0_idleTicks T C σ c9) = 0) : HT l E q σ o yL_idleTicks cL_idleTicks 4 [(0, 9, 12, 13)] rx_idleTicks [.int c9] (e_X0_idleTicks T C σ c9) := by
  refine Met.ofH (by decide) (Nat.le_of_ble_eq_true rfl) (fun p e s m args below meth c ls Q B htab hQ hPK hl => ?_)
  obtain ⟨hx, hb, hml, hr, hlocks, hown, hts⟩ := B
  have S0 : Fx p m c cL_idleTicks 4 s args RL := ⟨hx, hb, hml, hown, hts⟩
  obtain ⟨hP, hK, hX, hN⟩ := hPK
  have hl : lv_has ls 4 [(0, .ref (q 0)), (1, .int c9), (2, .ref o)] := hl
  refine lv_aload_n hx hb dL_idleTicks_0 rfl (lv_at hl 2 rfl) ?_
  refine lv_iconst (v := 0) hx hb dL_idleTicks_1 (by decide) ?_
  refine lv_aload_n hx hb dL_idleTicks_2 rfl (lv_at hl 0 rfl) ?_
  refine lv_iload_n hx hb dL_idleTicks_3 rfl (lv_at hl 1 rfl) ?_
  refine hc_V (t_X0_idleTicks l hst E q hq hT hC σ hI c9 he) gw_L_83 hd_X0_idleTicks ⟨rfl, rfl⟩ S0 hK hP hX (rest := [.int 0, .ref o]) rfl hl.1 (Nat.le_of_ble_eq_true rfl) ⟨(Nat.le_of_ble_eq_true rfl), (Nat.le_of_ble_eq_true rfl)⟩ ⟨(Nat.le_of_ble_eq_true rfl), (Nat.le_of_ble_eq_true rfl)⟩ dL_idleTicks_4 (fun H1 q9 ce hz hk hce hcv hcl => ?_)
  have hcode := (er_idleTicks T C σ c9).resolve_left he
  have hcs : (Cond.castable xIAE xIAE).before args s = true := (hX.2.1 (.castable xIAE xIAE) (by decide +kernel)).use rfl
  refine vx_catch (own := RL) (name := xIAE) (E := xIAE) hown [] ⟨0, 9, 12, 13⟩ [] htab (fun _ h => nomatch h) (by decide) (by decide) (hts _ cl_L_13) hcs hce hcv (by rw [hcode] at hcl; exact hcl) ?_
  show W p l e _ s m args below meth c H1 [] 1 6 Q (F0 m 12 ls [.ref q9])
  refine lv_astore_n (i := 3) hx hb dL_idleTicks_12 rfl hl (by decide) rfl (fun ls hl => ?_)
  refine lv_iconst (v := 1) hx hb dL_idleTicks_13 (by decide) ?_
  exact rt_HT hQ hx hb hr hlocks hz hk hcode.symm dL_idleTicks_14
theorem er_forcedIdleTicks (T C : Nat) (σ : St) (c9 : Int32) : (e_X0_forcedIdleTicks T C σ c9) = 0 ∨ (e_X0_forcedIdleTicks T C σ c9) = 1 := by
  unfold e_X0_forcedIdleTicks
  repeat' split
  all_goals first | exact Or.inl rfl | exact Or.inr rfl
def rh_forcedIdleTicks : Room := { frames := 3, cells := 0, slots := 0, locals := 62 }
set_option maxHeartbeats 400000 in
theorem h_forcedIdleTicks (l : Launch) (E : Ev) (q : Nat → Nat) (hq : Dq q) {T C : Nat} (hT : T ≤ 16) (hC : 1 ≤ C ∧ C ≤ 4) (σ : St) (hI : Inv T C σ) (o : Nat) (ho : ¬ Aq q o) (c9 : Int32) (he : (e_X0_forcedIdleTicks T C σ c9) = 0) : HN l E q σ o yL_forcedIdleTicks cL_forcedIdleTicks 4 [(0, 9, 12, 13)] rh_forcedIdleTicks [.int c9] (Int32.toInt64 (f_X0_forcedIdleTicks T C σ c9)) σ True := by
  refine Met.ofH (by decide) (Nat.le_of_ble_eq_true rfl) (fun p e s m args below meth c ls Q B htab hQ hPK hl => ?_)
  obtain ⟨hx, hb, hml, hr, hlocks, hown, hts⟩ := B
  have S0 : Fx p m c cL_forcedIdleTicks 4 s args RL := ⟨hx, hb, hml, hown, hts⟩
  obtain ⟨⟨hP, w0, hO⟩, hK⟩ := hPK
  have hl : lv_has ls 4 [(0, .ref (q 0)), (1, .int c9), (2, .ref o)] := hl
  refine lv_aload_n hx hb dL_forcedIdleTicks_0 rfl (lv_at hl 2 rfl) ?_
  refine lv_iconst (v := 0) hx hb dL_forcedIdleTicks_1 (by decide) ?_
  refine lv_aload_n hx hb dL_forcedIdleTicks_2 rfl (lv_at hl 0 rfl) ?_
  refine lv_iload_n hx hb dL_forcedIdleTicks_3 rfl (lv_at hl 1 rfl) ?_
  refine cl_RI (k_X0_forcedIdleTicks l E q hq hT hC σ hI c9 he) gw_L_86 hd_X0_forcedIdleTicks ⟨rfl, rfl⟩ S0 hK hP (rest := [.int 0, .ref o]) rfl hl.1 (Nat.le_of_ble_eq_true rfl) ⟨(Nat.le_of_ble_eq_true rfl), (Nat.le_of_ble_eq_true rfl)⟩ ⟨Nat.zero_le _, Nat.zero_le _⟩ dL_forcedIdleTicks_4 (fun hex => ?_)
  refine lv_i2l (v := Int32.toInt64 (f_X0_forcedIdleTicks T C σ c9)) hx hb dL_forcedIdleTicks_7 rfl ?_
  refine oj_last hx hb hK hq ho hP hO va_S.rf dL_forcedIdleTicks_8 (fun H2 locs2 hP hO hS => ?_)
  refine lv_goto (tgt := 15) hx hb dL_forcedIdleTicks_9 rfl ?_
  refine lv_iconst (v := 0) hx hb dL_forcedIdleTicks_15 (by decide) ?_
  exact rt_HN hQ hx hb hr hlocks hP hO hS hex dL_forcedIdleTicks_16
def rx_forcedIdleTicks : Room := { frames := 8, cells := 1, slots := 6, locals := 124 }
set_option maxHeartbeats 400000 in
theorem x_forcedIdleTicks (l : Launch) (hst : l.stackTraces = false) (E : Ev) (q : Nat → Nat) (hq : Dq q) {T C : Nat} (hT : T ≤ 16) (hC : 1 ≤ C ∧ C ≤ 4) (σ : St) (hI : Inv T C σ) (o : Nat) (c9 : Int32) (he : ¬ (e_X0_forcedIdleTicks T C σ c9) = 0) : HT l E q σ o yL_forcedIdleTicks cL_forcedIdleTicks 4 [(0, 9, 12, 13)] rx_forcedIdleTicks [.int c9] (e_X0_forcedIdleTicks T C σ c9) := by
  refine Met.ofH (by decide) (Nat.le_of_ble_eq_true rfl) (fun p e s m args below meth c ls Q B htab hQ hPK hl => ?_)
  obtain ⟨hx, hb, hml, hr, hlocks, hown, hts⟩ := B
  have S0 : Fx p m c cL_forcedIdleTicks 4 s args RL := ⟨hx, hb, hml, hown, hts⟩
  obtain ⟨hP, hK, hX, hN⟩ := hPK
  have hl : lv_has ls 4 [(0, .ref (q 0)), (1, .int c9), (2, .ref o)] := hl
  refine lv_aload_n hx hb dL_forcedIdleTicks_0 rfl (lv_at hl 2 rfl) ?_
  refine lv_iconst (v := 0) hx hb dL_forcedIdleTicks_1 (by decide) ?_
  refine lv_aload_n hx hb dL_forcedIdleTicks_2 rfl (lv_at hl 0 rfl) ?_
  refine lv_iload_n hx hb dL_forcedIdleTicks_3 rfl (lv_at hl 1 rfl) ?_
  refine hc_V (t_X0_forcedIdleTicks l hst E q hq hT hC σ hI c9 he) gw_L_86 hd_X0_forcedIdleTicks ⟨rfl, rfl⟩ S0 hK hP hX (rest := [.int 0, .ref o]) rfl hl.1 (Nat.le_of_ble_eq_true rfl) ⟨(Nat.le_of_ble_eq_true rfl), (Nat.le_of_ble_eq_true rfl)⟩ ⟨(Nat.le_of_ble_eq_true rfl), (Nat.le_of_ble_eq_true rfl)⟩ dL_forcedIdleTicks_4 (fun H1 q9 ce hz hk hce hcv hcl => ?_)
  have hcode := (er_forcedIdleTicks T C σ c9).resolve_left he
  have hcs : (Cond.castable xIAE xIAE).before args s = true := (hX.2.1 (.castable xIAE xIAE) (by decide +kernel)).use rfl
  refine vx_catch (own := RL) (name := xIAE) (E := xIAE) hown [] ⟨0, 9, 12, 13⟩ [] htab (fun _ h => nomatch h) (by decide) (by decide) (hts _ cl_L_13) hcs hce hcv (by rw [hcode] at hcl; exact hcl) ?_
  show W p l e _ s m args below meth c H1 [] 1 6 Q (F0 m 12 ls [.ref q9])
  refine lv_astore_n (i := 3) hx hb dL_forcedIdleTicks_12 rfl hl (by decide) rfl (fun ls hl => ?_)
  refine lv_iconst (v := 1) hx hb dL_forcedIdleTicks_13 (by decide) ?_
  exact rt_HT hQ hx hb hr hlocks hz hk hcode.symm dL_forcedIdleTicks_14
