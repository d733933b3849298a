/-! the helper of share -/
theorem er_share (T C : Nat) (σ : St) (t : Int32) : (e_X0_share T C σ t) = 0 ∨ (e_X0_share T C σ t) = 1 := by
  unfold e_X0_share
  repeat' split
  all_goals first | exact Or.inl rfl | exact Or.inr rfl
def rx_share : Room := { frames := 8, cells := 1, slots := 6, locals := 128 }
set_option maxHeartbeats 400000 in
theorem x_share (l : Launch) (hst : l.stackTraces = false) (E : Ev) (q : Nat → Nat) (hq : Dq q) {T C : Nat} (hT : T ≤ 16) (hC : 1 ≤ C ∧ C ≤ 4) (σ : St) (hI : Inv T C σ) (o : Nat) (t : Int32) (he : ¬ (e_X0_share T C σ t) = 0) : HT l E q σ o yL_share cL_share 4 [(0, 8, 11, 13)] rx_share [.int t] (e_X0_share T C σ t) := by
  refine Met.ofH (by decide) (Nat.le_of_ble_eq_true rfl) (fun p e s m args below meth c ls Q B htab hQ hPK hl => ?_)
  obtain ⟨hx, hb, hml, hr, hlocks, hown, hts⟩ := B
  have S0 : Fx p m c cL_share 4 s args RL := ⟨hx, hb, hml, hown, hts⟩
  obtain ⟨hP, hK, hX, hN⟩ := hPK
  have hl : lv_has ls 4 [(0, .ref (q 0)), (1, .int t), (2, .ref o)] := hl
  refine lv_aload_n hx hb dL_share_0 rfl (lv_at hl 2 rfl) ?_
  refine lv_iconst (v := 0) hx hb dL_share_1 (by decide) ?_
  refine lv_aload_n hx hb dL_share_2 rfl (lv_at hl 0 rfl) ?_
  refine lv_iload_n hx hb dL_share_3 rfl (lv_at hl 1 rfl) ?_
  refine hc_V (t_X0_share l hst E q hq hT hC σ hI t he) gw_L_59 hd_X0_share ⟨rfl, rfl⟩ S0 hK hP hX (rest := [.int 0, .ref o]) rfl hl.1 (Nat.le_of_ble_eq_true rfl) ⟨(Nat.le_of_ble_eq_true rfl), (Nat.le_of_ble_eq_true rfl)⟩ ⟨(Nat.le_of_ble_eq_true rfl), (Nat.le_of_ble_eq_true rfl)⟩ dL_share_4 (fun H1 q9 ce hz hk hce hcv hcl => ?_)
  have hcode := (er_share T C σ t).resolve_left he
  have hcs : (Cond.castable xIAE xIAE).before args s = true := (hX.2.1 (.castable xIAE xIAE) (by decide +kernel)).use rfl
  refine vx_catch (own := RL) (name := xIAE) (E := xIAE) hown [] ⟨0, 8, 11, 13⟩ [] htab (fun _ h => nomatch h) (by decide) (by decide) (hts _ cl_L_13) hcs hce hcv (by rw [hcode] at hcl; exact hcl) ?_
  show W p l e _ s m args below meth c H1 [] 1 6 Q (F0 m 11 ls [.ref q9])
  refine lv_astore_n (i := 3) hx hb dL_share_11 rfl hl (by decide) rfl (fun ls hl => ?_)
  refine lv_iconst (v := 1) hx hb dL_share_12 (by decide) ?_
  exact rt_HT hQ hx hb hr hlocks hz hk hcode.symm dL_share_13
def ODv (E : Ev) (dD : ClassId) (o : Nat) (v : UInt64) (H : Heap) : Prop := ∃ f : Nat → UInt64, f 0 = v ∧ va_P E.1 vwCl [(o, .inl (dD, 1, .inr (.inr (.inr (.inl f)))))] H
theorem ODv.kept {E : Ev} {dD : ClassId} {o : Nat} {v : UInt64} {H H1 : Heap} (h : ODv E dD o v H) (hk : H1[o]? = H[o]?) : ODv E dD o v H1 := by
  obtain ⟨f, hf, hP⟩ := h
  exact ⟨f, hf, hP.kept (fun k q hq => by
    match k, hq with
    | 0, hq => cases hq; exact hk
    | k + 1, hq => simp at hq)⟩
theorem ODv.od {E : Ev} {dD : ClassId} {o : Nat} {v : UInt64} {H : Heap} (h : ODv E dD o v H) : OD E dD o H := by
  obtain ⟨f, hf, hP⟩ := h
  exact ⟨f, hP⟩
section DR
variable {p : Program} {l : Launch} {e : Env} {R : Room} {s : State} {m : MethodId} {args : Array Value} {below : List Frame} {meth : Method} {c : Code} {H H0 : Heap} {locs : List Loc} {cells slots : Nat} {Q : State → Prop}
variable {cc bytes : ByteArray} {pc idx nL maxL : Nat} {ls : Array Slot} {rest st0 As : List Value} {E : Ev} {dD : ClassId} {q : Nat → Nat} {σ σ' : St} {k : Nat} {y : MethodName} {ret : Option FieldType} {rm : Room} {own : String} {v x : UInt64} {o : Nat} {A : Nat → Prop}
theorem od_dast (hx : p.tables.exec = Jvm.exec) (hb : c.code = cc) (hKD : va_K E.1 vwCl [(dD, .double)] s) (hq : Dq q) (ho : ¬ Aq q o) (hP : PP 0 E q σ H) (hO : OD E dD o H) (hS : va_S (Ao q o) H0 H locs) (hdg : decode cc pc = .ok (.dastore, 1))
    (kk : ∀ (H1 : Heap) (locs1 : List Loc), PP 0 E q σ H1 → ODv E dD o x H1 → va_S (Ao q o) H0 H1 locs1 → W p l e R s m args below meth c H1 locs1 cells slots Q (F0 m (pc + 1) ls rest)) : W p l e R s m args below meth c H locs cells slots Q (F0 m pc ls (.double x :: .int 0 :: .ref o :: rest)) := by
  obtain ⟨f, hO⟩ := hO
  have hC : va_P E.1 vwCl (((q 0, ob 0 q σ.2.2) :: wr E q σ) ++ [(o, .inl (dD, 1, .inr (.inr (.inr (.inl f)))))]) H := va_P.app (w1 := (q 0, ob 0 q σ.2.2) :: wr E q σ) hP hO
  exact va_dast hx hb hKD hC (Do hq ho) hS 14 0 rfl rfl (by unfold vp_in; decide) hdg (fun H1 locs1 h1 _ h3 => kk H1 locs1 (h1.sub [0, 1, 2, 3, 4, 5, 6, 7, 8, 9, 10, 11, 12, 13] rfl) ⟨_, rfl, h1.sub [14] rfl⟩ h3)
theorem cl_RD (hM : RD l k E q σ y bytes maxL ret rm As v) (hg : GoodIn lw_all (wsV own idx (RK k) y (ws_ y bytes maxL ret))) (hd : hdT y (RK k) As.length) (hrm : rm.cells = 0 ∧ rm.slots = 0) (S : Fx p m c cc nL s args own) (hK : KK E s) (hP : PP k E q σ H) (hst : st0 = As.reverse ++ .ref (q 0) :: rest) (hsz : ls.size = nL) (hw : (rest.map fun v => v.category).sum ≤ 8) (hR : rm.frames + 1 ≤ R.frames ∧ 8 + (maxL + 11) + rm.locals ≤ R.locals) (hcs : cells ≤ R.cells ∧ slots ≤ R.slots) (hdg : decode cc pc = .ok (.invokevirtual idx, 3))
    (kk : W p l e R s m args below meth c H locs cells slots Q (F0 m (pc + 3) ls (.double v :: rest))) : W p l e R s m args below meth c H locs cells slots Q (F0 m pc ls st0) := by
  subst hst
  intro T hT X
  obtain ⟨w, st₀, t, T', L, h0, X', hL, e1, e2, ⟨r, hv, hp, hh⟩, st⟩ := va_runV (As := As) (rest := rest) S hM (cwV As.length S.2.2.2.2 hg rfl hrm.1 hrm.2 hd hR) (pre_V hK hP) rfl rfl hsz rfl (lv_room hw) hdg hcs T hT X
  cases hv
  rw [hp] at st
  obtain ⟨t2, a1, b1⟩ := kk T' (by rw [e1, hh, h0]) (Stand.forget X' (fun q h => (hL q h).elim))
  exact ⟨t2, st t2 a1, b1⟩
theorem gl_WD (hM : WD l k E q σ y bytes maxL ret rm As v σ') (hg : GoodIn lw_all (wsV own idx (RK k) y (ws_ y bytes maxL ret))) (hd : hdT y (RK k) As.length) (hrm : rm.cells = 0 ∧ rm.slots = 0) (S : Fx p m c cc nL s args own) (hK : KK E s) (hP : PP k E q σ H) (hS : va_S A H0 H locs) (hA : ∀ a, Aq q a → A a) (hst : st0 = As.reverse ++ .ref (q 0) :: rest) (hsz : ls.size = nL) (hw : (rest.map fun v => v.category).sum ≤ 8) (hR : rm.frames + 1 ≤ R.frames ∧ 8 + (maxL + 11) + rm.locals ≤ R.locals) (hcs : cells ≤ R.cells ∧ slots ≤ R.slots) (hdg : decode cc pc = .ok (.invokevirtual idx, 3))
    (kk : ∀ (H1 : Heap) (locs1 : List Loc), PP k E q σ' H1 → va_S A H0 H1 locs1 → H.size ≤ H1.size → (∀ a : Nat, a < H.size → ¬ Aq q a → H1[a]? = H[a]?) → W p l e R s m args below meth c H1 locs1 cells slots Q (F0 m (pc + 3) ls (.double v :: rest))) : W p l e R s m args below meth c H locs cells slots Q (F0 m pc ls st0) := by
  subst hst
  refine va_calld (va_runV (As := As) (rest := rest) S hM (cwV As.length S.2.2.2.2 hg rfl hrm.1 hrm.2 hd hR) (pre_V hK hP) rfl rfl hsz rfl (lv_room hw) hdg hcs) hS (fun a _ h => hA a h) (fun a h => hA a h) (fun r u t H1 locs1 ht _ hw hB hz hk hS1 => ?_)
  rw [hw]
  rw [ht] at hB
  exact kk H1 locs1 hB hS1 hz hk
end DR
def preD (E : Ev) (dD : ClassId) (q : Nat → Nat) (σ : St) (o : Nat) (As : List Value) : Array Value → State → Prop := va_Pc (.ref (q 0) :: (As ++ [.ref o])) (fun U => (PP 0 E q σ U.heap ∧ OD E dD o U.heap) ∧ KK E U ∧ va_K E.1 vwCl [(dD, .double)] U)
def rh_share : Room := { frames := 3, cells := 0, slots := 0, locals := 85 }
set_option maxHeartbeats 400000 in
theorem h_share (fl : FLs) (l : Launch) (E : Ev) (dD : ClassId) (q : Nat → Nat) (hq : Dq q) {T C : Nat} (hT : T ≤ 16) (hC : 1 ≤ C ∧ C ≤ 4) (σ : St) (hI : Inv T C σ) (hR : Rw 51200 σ) (o : Nat) (ho : ¬ Aq q o) (t : Int32) (he : (e_X0_share T C σ t) = 0) : Met l yL_share (wsH yL_share cL_share 4 [(0, 8, 11, 13)]) rh_share (preD E dD q σ o [.int t]) (va_Qi (fun w (_ : Unit) => w = 0) (fun _ t9 => PP 0 E q σ t9.heap ∧ ODv E dD o (sv (σ.1 5 (ix t)) (σ.1 6 (ix t))) t9.heap) (Ao q o)) 0 0 (Ao q o) := by
  refine Met.ofH (by decide) (Nat.le_of_ble_eq_true rfl) (fun p e s m args below meth c ls Q B htab hQ hPK hl => ?_)
  obtain ⟨hx, hb, hml, hr, hlocks, hown, hts⟩ := B
  have S0 : Fx p m c cL_share 4 s args RL := ⟨hx, hb, hml, hown, hts⟩
  obtain ⟨⟨hP, hO⟩, hK, hKD⟩ := hPK
  have hl : lv_has ls 4 [(0, .ref (q 0)), (1, .int t), (2, .ref o)] := hl
  refine lv_aload_n hx hb dL_share_0 rfl (lv_at hl 2 rfl) ?_
  refine lv_iconst (v := 0) hx hb dL_share_1 (by decide) ?_
  refine lv_aload_n hx hb dL_share_2 rfl (lv_at hl 0 rfl) ?_
  refine lv_iload_n hx hb dL_share_3 rfl (lv_at hl 1 rfl) ?_
  refine cl_RD (k_X0_share fl l E q hq hT hC σ hI hR t he) gw_L_59 hd_X0_share ⟨rfl, rfl⟩ S0 hK hP (rest := [.int 0, .ref o]) rfl hl.1 (Nat.le_of_ble_eq_true rfl) ⟨(Nat.le_of_ble_eq_true rfl), (Nat.le_of_ble_eq_true rfl)⟩ ⟨Nat.zero_le _, Nat.zero_le _⟩ dL_share_4 ?_
  refine od_dast hx hb hKD hq ho hP hO va_S.rf dL_share_7 (fun H2 locs2 hP hO hS => ?_)
  refine lv_goto (tgt := 14) hx hb dL_share_8 rfl ?_
  refine lv_iconst (v := 0) hx hb dL_share_14 (by decide) ?_
  exact hQ ▸ W.iret hx hb hr (fun t9 ht _ => ⟨⟨0, (), rfl, rfl, by show PP _ _ _ _ t9.heap ∧ ODv _ _ _ _ t9.heap; rw [ht]; exact ⟨hP, hO⟩⟩, hS.F ht⟩) hS.2.2 dL_share_15 hlocks
