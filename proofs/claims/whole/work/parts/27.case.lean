/-! one turn of the law's loop -/
def OD (E : Ev) (dD : ClassId) (o : Nat) (H : Heap) : Prop := ∃ f : Nat → UInt64, va_P E.1 vwCl [(o, .inl (dD, 1, .inr (.inr (.inr (.inl f)))))] H
theorem OD.kept {E : Ev} {dD : ClassId} {o : Nat} {H H1 : Heap} (h : OD E dD o H) (hk : H1[o]? = H[o]?) : OD E dD o H1 := by
  obtain ⟨f, hP⟩ := h
  exact ⟨f, hP.kept (fun k q hq => by
    match k, hq with
    | 0, hq => cases hq; exact hk
    | k + 1, hq => simp at hq)⟩
theorem OD.lt {E : Ev} {dD : ClassId} {o : Nat} {H : Heap} (h : OD E dD o H) : o < H.size := by
  obtain ⟨f, hP⟩ := h
  exact vx_lt hP (k := 0) rfl
def Rw (N : Nat) (σ : St) : Prop := ∀ k : Nat, ∃ a b : Nat, σ.1 5 k = nI a ∧ σ.1 6 k = nI b ∧ a + b ≤ N
theorem Rw.mono {N M : Nat} {σ : St} (h : Rw N σ) (hm : N ≤ M) : Rw M σ := fun k => by
  obtain ⟨a, b, h1, h2, h3⟩ := h k
  exact ⟨a, b, h1, h2, Nat.le_trans h3 hm⟩
abbrev An (s : State) : Nat → Prop := fun a => s.heap.size ≤ a
/-- what stays through the law -/
def LK (E : Ev) (dD : ClassId) (q0 q1 : Nat → Nat) (o od b L : Nat) (xs : Nat → Int32) (s : State) : Prop := (Dq q0 ∧ Dq q1 ∧ (∀ a, Aq q0 a → s.heap.size ≤ a) ∧ (∀ a, Aq q1 a → s.heap.size ≤ a) ∧ s.heap.size ≤ o ∧ s.heap.size ≤ od) ∧ ((∀ a, Aq q0 a → ¬ Aq q1 a) ∧ ¬ Aq q0 o ∧ ¬ Aq q1 o ∧ ¬ Aq q0 od ∧ ¬ Aq q1 od ∧ o ≠ od) ∧ (va_X b L xs s s.heap ∧ b < s.heap.size ∧ L ≤ 2048) ∧ KK E s ∧ va_K E.1 vwCl [(dD, .double)] s ∧ XF q0 s ∧ NC s
/-- the numbers between two calls -/
def LPs (T C n : Nat) (σ : St) : Prop := T ≤ 16 ∧ (1 ≤ C ∧ C ≤ 4) ∧ Inv T C σ ∧ (σ.2.2 16 = 0 ∨ σ.2.2 16 = 1) ∧ Rw (100 * n) σ
theorem LPs.s17 {T C n : Nat} {σ : St} (c : Int32) (h : LPs T C n σ) : LPs T C (n + 1) (sS σ 17 c) := ⟨h.1, h.2.1, inv_sS ⟨by decide, by decide⟩ h.2.2.1, h.2.2.2.1, Rw.mono (σ := sS σ 17 c) (fun k => h.2.2.2.2 k) (by omega)⟩
/-- the heap between two calls -/
def LH (E : Ev) (dD : ClassId) (q0 q1 : Nat → Nat) (o od : Nat) (s : State) (n : Nat) (σ : St) (H : Heap) (locs : List Loc) (cells slots : Nat) : Prop := PP 0 E q0 σ H ∧ PP 1 E q1 σ H ∧ (∃ w, OJ E o w H) ∧ OD E dD od H ∧ va_S (An s) s.heap H locs ∧ cells ≤ 30 + n ∧ slots ≤ 349 + 6 * n
theorem lgc (x : Int64) : lg_cmp x x = 0 := by
  unfold lg_cmp
  simp
theorem preN_blind {E : Ev} {q : Nat → Nat} {σ : St} {o : Nat} {As : List Value} : FrameBlind (preN E q σ o As) := fun _ _ _ _ h => ⟨h.1, h.2.1, KK.moved (Vm.Alike.refl _) h.2.2⟩
theorem preT_blind {E : Ev} {q : Nat → Nat} {σ : St} {o : Nat} {As : List Value} : FrameBlind (preT E q σ o As) := fun _ _ _ _ h => ⟨h.1, h.2.1, KK.moved (Vm.Alike.refl _) h.2.2.1, h.2.2.2.1.calling, h.2.2.2.2.moved (Vm.Alike.refl _)⟩
section LC
variable {p : Program} {l : Launch} {e : Env} {R : Room} {s : State} {m : MethodId} {args : Array Value} {below : List Frame} {meth : Method} {c : Code} {H H0 : Heap} {locs : List Loc} {cells slots : Nat} {Q : State → Prop}
variable {cc bytes : ByteArray} {pc idx nL maxL N : Nat} {ls : Array Slot} {rest st0 As : List Value} {E : Ev} {q : Nat → Nat} {σ σ' : St} {y : MethodName} {rm : Room} {own C : String} {r : Int32} {w v : Int64} {ex : Prop} {o : Nat} {A : Nat → Prop} {hh : List (Nat × Nat × Nat × Nat)}
theorem ch_N (hM : HN l E q σ o y bytes maxL hh rm As v σ' ex) (hg : GoodIn lw_all (va_wsS own idx y (wsH y bytes maxL hh))) (hd : hdT y C N) (hN : (Value.ref (q 0) :: (As ++ [.ref o])).length = N) (hrm : rm.cells = 0 ∧ rm.slots = 0) (S : Fx p m c cc nL s args own) (hK : KK E s) (hP : PP 0 E q σ H) (hO : OJ E o w H) (hS : va_S A H0 H locs) (hA : ∀ a, Ao q o a → A a) (hst : st0 = (Value.ref (q 0) :: (As ++ [.ref o])).reverse ++ rest) (hsz : ls.size = nL) (hw : (rest.map fun v => v.category).sum ≤ 8) (hR : rm.frames + 1 ≤ R.frames ∧ 8 + (maxL + 11) + rm.locals ≤ R.locals) (hcs : cells ≤ R.cells ∧ slots ≤ R.slots) (hdg : decode cc pc = .ok (.invokestatic idx, 3))
    (kk : ∀ (H1 : Heap) (locs1 : List Loc), PP 0 E q σ' H1 → OJ E o v H1 → va_S A H0 H1 locs1 → H.size ≤ H1.size → (∀ a : Nat, a < H.size → ¬ Ao q o a → H1[a]? = H[a]?) → ex → W p l e R s m args below meth c H1 locs1 cells slots Q (F0 m (pc + 3) ls (.int 0 :: rest))) : W p l e R s m args below meth c H locs cells slots Q (F0 m pc ls st0) := by
  subst hst
  refine va_calli (vx_runSW (As := Value.ref (q 0) :: (As ++ [.ref o])) (rest := rest) S hM (vx_cwSW N S.2.2.2.2 hg rfl hrm.1 hrm.2 hd.2 hR) ⟨preN_blind, fun U hU hW => ⟨rfl, ⟨by rw [hU]; exact hP, w, by rw [hU]; exact hO⟩, KK.moved hW.alike hK⟩⟩ rfl hN hsz rfl (lv_room hw) hdg hcs) hS (fun a _ h => hA a h) (fun a h => hA a h) (fun r u t H1 locs1 ht _ hw hB hz hk hS1 => ?_)
  rw [hw.1]
  rw [ht] at hB
  exact kk H1 locs1 hB.1 hB.2 hS1 hz hk hw.2
theorem ch_T (hM : HT l E q σ o y bytes maxL hh rm As r) (hg : GoodIn lw_all (va_wsS own idx y (wsH y bytes maxL hh))) (hd : hdT y C N) (hN : (Value.ref (q 0) :: (As ++ [.ref o])).length = N) (hrm : rm.cells = 1 ∧ rm.slots = 6) (S : Fx p m c cc nL s args own) (hK : KK E s) (hP : PP 0 E q σ H) (hX : XF q s) (hNC : NC s) (hS : va_S (An s) s.heap H locs) (hst : st0 = (Value.ref (q 0) :: (As ++ [.ref o])).reverse ++ rest) (hsz : ls.size = nL) (hw : (rest.map fun v => v.category).sum ≤ 8) (hR : rm.frames + 1 ≤ R.frames ∧ 8 + (maxL + 11) + rm.locals ≤ R.locals) (hcs : cells + 1 ≤ R.cells ∧ slots + 6 ≤ R.slots) (hdg : decode cc pc = .ok (.invokestatic idx, 3))
    (kk : ∀ (H1 : Heap) (locs1 : List Loc), va_S (An s) s.heap H1 locs1 → H.size ≤ H1.size → (∀ a : Nat, a < H.size → H1[a]? = H[a]?) → W p l e R s m args below meth c H1 locs1 (cells + 1) (slots + 6) Q (F0 m (pc + 3) ls (.int r :: rest))) : W p l e R s m args below meth c H locs cells slots Q (F0 m pc ls st0) := by
  subst hst
  refine va_calli (vx_runSW (As := Value.ref (q 0) :: (As ++ [.ref o])) (rest := rest) S hM (vx_cwSW N S.2.2.2.2 hg rfl hrm.1 hrm.2 hd.2 hR) ⟨preT_blind, fun U hU hW => ⟨rfl, by rw [hU]; exact hP, KK.moved hW.alike hK, hX.warm hW (fun a ha _ => by rw [hU]; exact hS.2.1 a ha (Nat.not_le.mpr ha)), hNC.moved hW.alike⟩⟩ rfl hN hsz rfl (lv_room hw) hdg hcs) hS (fun a _ h => h.elim) (fun a h => h.elim) (fun r9 u t H1 locs1 ht _ hw hB hz hk hS1 => ?_)
  rw [hw]
  exact kk H1 locs1 hS1 hz (fun a ha => hk a ha id)
end LC
set_option maxHeartbeats 1000000 in
theorem c_reset {p : Program} {l : Launch} {e : Env} {s : State} {m : MethodId} {args : Array Value} {below : List Frame} {meth : Method} {c : Code} {H : Heap} {locs : List Loc} {cells slots : Nat} {Q : State → Prop} {ls : Array Slot} {E : Ev} {dD : ClassId} {q0 q1 : Nat → Nat} {o od b L T C n : Nat} {xs : Nat → Int32} {i : Int32} {σ : St} (hst : l.stackTraces = false) (S0 : Fx p m c cL_law 9 s args RL) (K : LK E dD q0 q1 o od b L xs s) (hp : LPs T C n σ) (hh : LH E dD q0 q1 o od s n σ H locs cells slots) (hn : n < 512) (hl : lv_has ls 9 [(0, .ref b), (1, .ref (q0 0)), (2, .ref (q1 0)), (3, .ref o), (4, .ref od), (5, .int i)]) (hi1 : vp_in (i + 1) L) (hi2 : vp_in (i + 2) L) (hi3 : vp_in (i + 3) L)
    (hpl : (e_X0_reset T C σ (xs (i + 1).toNatClampNeg)) = 0 → True → ∃ T1 C1 : Nat, LPs T1 C1 (n + 1) (g_X0_reset T C (sS σ 17 0) (xs (i + 1).toNatClampNeg)))
    (kk : ∀ (T1 C1 : Nat) (σ1 : St) (H1 : Heap) (locs1 : List Loc) (c1 s1 : Nat) (ls : Array Slot), LPs T1 C1 (n + 1) σ1 → LH E dD q0 q1 o od s (n + 1) σ1 H1 locs1 c1 s1 → lv_has ls 9 [(0, .ref b), (1, .ref (q0 0)), (2, .ref (q1 0)), (3, .ref o), (4, .ref od), (5, .int i)] → W p l e room_1 s m args below meth c H1 locs1 c1 s1 Q (F0 m 1609 ls [])) : W p l e room_1 s m args below meth c H locs cells slots Q (F0 m 164 ls []) := by
  obtain ⟨⟨hq0, hq1, hn0, hn1, hno, hnd⟩, ⟨h01, h0o, h1o, h0d, h1d, hod⟩, ⟨hX, hbl, hL⟩, hK, hKD, hXF, hNC⟩ := K
  obtain ⟨hP0, hP1, ⟨w0, hO⟩, hOD, hS, hcl, hsl⟩ := hh
  have hT := hp.1
  have hC := hp.2.1
  have hI := hp.2.2.1
  have hx := S0.1
  have hb := S0.2.1
  have hbA : ¬ An s b := Nat.not_le.mpr hbl
  refine lv_aload_n hx hb dL_law_164 rfl (lv_at hl 1 rfl) ?_
  refine lv_aload_n hx hb dL_law_165 rfl (lv_at hl 0 rfl) ?_
  refine lv_iload hx hb dL_law_166 (lv_at hl 5 rfl) ?_
  refine lv_iconst (v := 1) hx hb dL_law_168 (by decide) ?_
  refine lv_iadd hx hb dL_law_169 ?_
  refine va_sld hx hb hX hbl hbA hS hi1 dL_law_170 ?_
  refine lv_aload_n hx hb dL_law_171 rfl (lv_at hl 3 rfl) ?_
  by_cases he : (e_X0_reset T C σ (xs (i + 1).toNatClampNeg)) = 0
  · have he0 : e_X0_reset T C (sS σ 17 0) (xs (i + 1).toNatClampNeg) = 0 := he
    have hP00 : PP 0 E q0 (sS σ 17 0) H := hP0
    refine ch_N (h_reset l E q0 hq0 hT hC (sS σ 17 0) (inv_sS ⟨by decide, by decide⟩ hI) o h0o (xs (i + 1).toNatClampNeg) he0) (gw_H ml_L_93 st_L_reset ini_L cd_L_reset) hd_L_reset rfl ⟨rfl, rfl⟩ S0 hK hP00 hO hS (fun a h => h.elim (hn0 a) (fun e9 => by rw [e9]; exact hno)) (rest := []) rfl hl.1 (Nat.le_of_ble_eq_true rfl) ⟨(Nat.le_of_ble_eq_true rfl), (Nat.le_of_ble_eq_true rfl)⟩ ⟨by show _ ≤ 1067; omega, by show _ ≤ 8619; omega⟩ dL_law_172 (fun H1 locs1 hP0 hO hS hz hk hex => ?_)
    have hP1 := hP1.kept (H1 := H1) (fun a ha h => hk a ha (fun h9 => h9.elim (fun h8 => h01 a h8 h) (fun e9 => h1o (by rw [← e9]; exact h))))
    have hOD := hOD.kept (H1 := H1) (hk od hOD.lt (fun h9 => h9.elim h0d (fun e9 => hod e9.symm)))
    refine lv_istore hx hb dL_law_175 hl (by decide) rfl (fun ls hl => ?_)
    have hl : lv_has ls 9 [(6, .int 0), (0, .ref b), (1, .ref (q0 0)), (2, .ref (q1 0)), (3, .ref o), (4, .ref od), (5, .int i)] := hl
    refine lv_aload_n hx hb dL_law_177 rfl (lv_at hl 3 rfl) ?_
    refine lv_aload_n hx hb dL_law_178 rfl (lv_at hl 1 rfl) ?_
    refine lv_iload hx hb dL_law_179 (lv_at hl 6 rfl) ?_
    refine lv_iconst (v := 1) hx hb dL_law_181 (by decide) ?_
    refine lv_iadd hx hb dL_law_182 ?_
    refine va_sld hx hb hX hbl hbA hS hi1 dL_law_183 ?_
    have hcs : cells ≤ room_1.cells ∧ slots ≤ room_1.slots := ⟨by show _ ≤ 1067; omega, by show _ ≤ 8619; omega⟩
    refine gl_WI (A := An s) (k_X1_reset l E q1 hq1 hT hC σ hI (xs (i + 1).toNatClampNeg)) gw_L_98 hd_X1_reset ⟨rfl, rfl⟩ S0 hK hP1 hS (fun a h => hn1 a h) (rest := []) rfl hl.1 (Nat.le_of_ble_eq_true rfl) ⟨(Nat.le_of_ble_eq_true rfl), (Nat.le_of_ble_eq_true rfl)⟩ hcs dL_law_184 (fun H2 locs2 hP1 hS hz2 hk2 hex2 => ?_)
    obtain ⟨hg, hf, h17⟩ := (q_reset hI (xs (i + 1).toNatClampNeg)).1 he
    rw [hg] at hP1
    rw [hf]
    have hP0 := hP0.kept (H1 := H2) (fun a ha h => hk2 a ha (h01 a h))
    have hO := hO.kept (H1 := H2) (hk2 o hO.lt h1o)
    have hOD := hOD.kept (H1 := H2) (hk2 od hOD.lt h1d)
    refine lv_istore hx hb dL_law_187 hl (by decide) rfl (fun ls hl => ?_)
    have hl : lv_has ls 9 [(7, .int (f_X0_reset T C (sS σ 17 0) (xs (i + 1).toNatClampNeg))), (6, .int 0), (0, .ref b), (1, .ref (q0 0)), (2, .ref (q1 0)), (3, .ref o), (4, .ref od), (5, .int i)] := hl
    refine lv_aload_n hx hb dL_law_189 rfl (lv_at hl 4 rfl) ?_
    obtain ⟨T1, C1, hp1⟩ := hpl he hex
    refine cl_RI (k_X1_thrown l E q1 hq1 hp1.1 hp1.2.1 (g_X0_reset T C (sS σ 17 0) (xs (i + 1).toNatClampNeg)) hp1.2.2.1) gw_L_99 hd_X1_thrown ⟨rfl, rfl⟩ S0 hK hP1 (rest := []) rfl hl.1 (Nat.le_of_ble_eq_true rfl) ⟨(Nat.le_of_ble_eq_true rfl), (Nat.le_of_ble_eq_true rfl)⟩ hcs dL_law_190 (fun _ => ?_)
    rw [show f_X1_thrown T1 C1 (g_X0_reset T C (sS σ 17 0) (xs (i + 1).toNatClampNeg)) = 0 from h17]
    refine lv_iload hx hb dL_law_193 (lv_at hl 1 rfl) ?_
    refine lv_icmp_eq (tgt := 200) hx hb dL_law_195 (by decide) (fun _ => ?_) (fun h => absurd rfl h)
    refine lv_iload hx hb dL_law_200 (lv_at hl 1 rfl) ?_
    refine lv_if_ne (tgt := 217) hx hb dL_law_202 (by decide) (fun h => absurd rfl h) (fun _ => ?_)
    obtain ⟨fo, hfo, hPO⟩ := hO
    refine lv_aload_n hx hb dL_law_205 rfl (lv_at hl 5 rfl) ?_
    refine lv_iconst (v := 0) hx hb dL_law_206 (by decide) ?_
    refine va_lald hx hb hK hPO 0 1 rfl rfl (by unfold vp_in; decide) dL_law_207 ?_
    rw [show fo (0 : Int32).toNatClampNeg = (Int32.toInt64 (f_X0_reset T C (sS σ 17 0) (xs (i + 1).toNatClampNeg))) from hfo]
    refine lv_iload hx hb dL_law_208 (lv_at hl 0 rfl) ?_
    refine lv_i2l (v := (Int32.toInt64 (f_X0_reset T C (sS σ 17 0) (xs (i + 1).toNatClampNeg)))) hx hb dL_law_210 rfl ?_
    refine W.lcmp hx hb dL_law_211 ?_
    rw [lgc]
    refine lv_if_eq (tgt := 217) hx hb dL_law_212 (by decide) (fun _ => ?_) (fun h => absurd rfl h)
    refine lv_goto (tgt := 1609) hx hb dL_law_217 rfl ?_
    exact kk T1 C1 (g_X0_reset T C (sS σ 17 0) (xs (i + 1).toNatClampNeg)) H2 locs2 cells slots ls hp1 ⟨hP0, hP1, ⟨_, fo, hfo, hPO⟩, hOD, hS, by omega, by omega⟩ (lv_sub hl [2, 3, 4, 5, 6, 7] rfl)
  · refine ch_T (x_reset l hst E q0 hq0 hT hC σ hI o (xs (i + 1).toNatClampNeg) he) (gw_H ml_L_93 st_L_reset ini_L cd_L_reset) hd_L_reset rfl ⟨rfl, rfl⟩ S0 hK hP0 hXF hNC hS (rest := []) rfl hl.1 (Nat.le_of_ble_eq_true rfl) ⟨(Nat.le_of_ble_eq_true rfl), (Nat.le_of_ble_eq_true rfl)⟩ ⟨by show _ ≤ 1067; omega, by show _ ≤ 8619; omega⟩ dL_law_172 (fun H1 locs1 hS hz hk => ?_)
    have hP0 : PP 0 E q0 (sS σ 17 (e_X0_reset T C σ (xs (i + 1).toNatClampNeg))) H1 := hP0.kept (H1 := H1) (fun a ha _ => hk a ha)
    have hP1 := hP1.kept (H1 := H1) (fun a ha _ => hk a ha)
    have hO := hO.kept (H1 := H1) (hk o hO.lt)
    have hOD := hOD.kept (H1 := H1) (hk od hOD.lt)
    refine lv_istore hx hb dL_law_175 hl (by decide) rfl (fun ls hl => ?_)
    have hl : lv_has ls 9 [(6, .int (e_X0_reset T C σ (xs (i + 1).toNatClampNeg))), (0, .ref b), (1, .ref (q0 0)), (2, .ref (q1 0)), (3, .ref o), (4, .ref od), (5, .int i)] := hl
    refine lv_aload_n hx hb dL_law_177 rfl (lv_at hl 3 rfl) ?_
    refine lv_aload_n hx hb dL_law_178 rfl (lv_at hl 1 rfl) ?_
    refine lv_iload hx hb dL_law_179 (lv_at hl 6 rfl) ?_
    refine lv_iconst (v := 1) hx hb dL_law_181 (by decide) ?_
    refine lv_iadd hx hb dL_law_182 ?_
    refine va_sld hx hb hX hbl hbA hS hi1 dL_law_183 ?_
    have hcs : cells + 1 ≤ room_1.cells ∧ slots + 6 ≤ room_1.slots := ⟨by show _ ≤ 1067; omega, by show _ ≤ 8619; omega⟩
    refine gl_WI (A := An s) (k_X1_reset l E q1 hq1 hT hC σ hI (xs (i + 1).toNatClampNeg)) gw_L_98 hd_X1_reset ⟨rfl, rfl⟩ S0 hK hP1 hS (fun a h => hn1 a h) (rest := []) rfl hl.1 (Nat.le_of_ble_eq_true rfl) ⟨(Nat.le_of_ble_eq_true rfl), (Nat.le_of_ble_eq_true rfl)⟩ hcs dL_law_184 (fun H2 locs2 hP1 hS hz2 hk2 hex2 => ?_)
    have hg := (q_reset hI (xs (i + 1).toNatClampNeg)).2 he
    rw [hg] at hP1
    have hP0 := hP0.kept (H1 := H2) (fun a ha h => hk2 a ha (h01 a h))
    have hO := hO.kept (H1 := H2) (hk2 o hO.lt h1o)
    have hOD := hOD.kept (H1 := H2) (hk2 od hOD.lt h1d)
    refine lv_istore hx hb dL_law_187 hl (by decide) rfl (fun ls hl => ?_)
    have hl : lv_has ls 9 [(7, .int (f_X1_reset T C σ (xs (i + 1).toNatClampNeg))), (6, .int (e_X0_reset T C σ (xs (i + 1).toNatClampNeg))), (0, .ref b), (1, .ref (q0 0)), (2, .ref (q1 0)), (3, .ref o), (4, .ref od), (5, .int i)] := hl
    refine lv_aload_n hx hb dL_law_189 rfl (lv_at hl 4 rfl) ?_
    refine cl_RI (k_X1_thrown l E q1 hq1 (hp.s17 (e_X0_reset T C σ (xs (i + 1).toNatClampNeg))).1 (hp.s17 (e_X0_reset T C σ (xs (i + 1).toNatClampNeg))).2.1 (sS σ 17 (e_X0_reset T C σ (xs (i + 1).toNatClampNeg))) (hp.s17 (e_X0_reset T C σ (xs (i + 1).toNatClampNeg))).2.2.1) gw_L_99 hd_X1_thrown ⟨rfl, rfl⟩ S0 hK hP1 (rest := []) rfl hl.1 (Nat.le_of_ble_eq_true rfl) ⟨(Nat.le_of_ble_eq_true rfl), (Nat.le_of_ble_eq_true rfl)⟩ hcs dL_law_190 (fun _ => ?_)
    rw [show f_X1_thrown T C (sS σ 17 (e_X0_reset T C σ (xs (i + 1).toNatClampNeg))) = (e_X0_reset T C σ (xs (i + 1).toNatClampNeg)) from rfl]
    refine lv_iload hx hb dL_law_193 (lv_at hl 1 rfl) ?_
    refine lv_icmp_eq (tgt := 200) hx hb dL_law_195 (by decide) (fun _ => ?_) (fun h => absurd rfl h)
    refine lv_iload hx hb dL_law_200 (lv_at hl 1 rfl) ?_
    refine lv_if_ne (tgt := 217) hx hb dL_law_202 (by decide) (fun _ => ?_) (fun h => absurd h he)
    refine lv_goto (tgt := 1609) hx hb dL_law_217 rfl ?_
    exact kk T C (sS σ 17 (e_X0_reset T C σ (xs (i + 1).toNatClampNeg))) H2 locs2 (cells + 1) (slots + 6) ls (hp.s17 _) ⟨hP0, hP1, ⟨_, hO⟩, hOD, hS, by omega, by omega⟩ (lv_sub hl [2, 3, 4, 5, 6, 7] rfl)
set_option maxHeartbeats 1000000 in
theorem c_tick {p : Program} {l : Launch} {e : Env} {s : State} {m : MethodId} {args : Array Value} {below : List Frame} {meth : Method} {c : Code} {H : Heap} {locs : List Loc} {cells slots : Nat} {Q : State → Prop} {ls : Array Slot} {E : Ev} {dD : ClassId} {q0 q1 : Nat → Nat} {o od b L T C n : Nat} {xs : Nat → Int32} {i : Int32} {σ : St} (hst : l.stackTraces = false) (S0 : Fx p m c cL_law 9 s args RL) (K : LK E dD q0 q1 o od b L xs s) (hp : LPs T C n σ) (hh : LH E dD q0 q1 o od s n σ H locs cells slots) (hn : n < 512) (hl : lv_has ls 9 [(0, .ref b), (1, .ref (q0 0)), (2, .ref (q1 0)), (3, .ref o), (4, .ref od), (5, .int i)]) (hi1 : vp_in (i + 1) L) (hi2 : vp_in (i + 2) L) (hi3 : vp_in (i + 3) L)
    (hpl : (e_X0_tick T C σ (xs (i + 1).toNatClampNeg)) = 0 → Inv T C (g_X0_tick T C (sS σ 17 0) (xs (i + 1).toNatClampNeg)) ∧ True → ∃ T1 C1 : Nat, LPs T1 C1 (n + 1) (g_X0_tick T C (sS σ 17 0) (xs (i + 1).toNatClampNeg)))
    (kk : ∀ (T1 C1 : Nat) (σ1 : St) (H1 : Heap) (locs1 : List Loc) (c1 s1 : Nat) (ls : Array Slot), LPs T1 C1 (n + 1) σ1 → LH E dD q0 q1 o od s (n + 1) σ1 H1 locs1 c1 s1 → lv_has ls 9 [(0, .ref b), (1, .ref (q0 0)), (2, .ref (q1 0)), (3, .ref o), (4, .ref od), (5, .int i)] → W p l e room_1 s m args below meth c H1 locs1 c1 s1 Q (F0 m 1609 ls [])) : W p l e room_1 s m args below meth c H locs cells slots Q (F0 m 261 ls []) := by
  obtain ⟨⟨hq0, hq1, hn0, hn1, hno, hnd⟩, ⟨h01, h0o, h1o, h0d, h1d, hod⟩, ⟨hX, hbl, hL⟩, hK, hKD, hXF, hNC⟩ := K
  obtain ⟨hP0, hP1, ⟨w0, hO⟩, hOD, hS, hcl, hsl⟩ := hh
  have hT := hp.1
  have hC := hp.2.1
  have hI := hp.2.2.1
  have hx := S0.1
  have hb := S0.2.1
  have hbA : ¬ An s b := Nat.not_le.mpr hbl
  refine lv_aload_n hx hb dL_law_261 rfl (lv_at hl 1 rfl) ?_
  refine lv_aload_n hx hb dL_law_262 rfl (lv_at hl 0 rfl) ?_
  refine lv_iload hx hb dL_law_263 (lv_at hl 5 rfl) ?_
  refine lv_iconst (v := 1) hx hb dL_law_265 (by decide) ?_
  refine lv_iadd hx hb dL_law_266 ?_
  refine va_sld hx hb hX hbl hbA hS hi1 dL_law_267 ?_
  refine lv_aload_n hx hb dL_law_268 rfl (lv_at hl 3 rfl) ?_
  by_cases he : (e_X0_tick T C σ (xs (i + 1).toNatClampNeg)) = 0
  · have he0 : e_X0_tick T C (sS σ 17 0) (xs (i + 1).toNatClampNeg) = 0 := he
    have hP00 : PP 0 E q0 (sS σ 17 0) H := hP0
    refine ch_N (h_tick l E q0 hq0 hT hC (sS σ 17 0) (inv_sS ⟨by decide, by decide⟩ hI) o h0o (xs (i + 1).toNatClampNeg) he0) (gw_H ml_L_108 st_L_tick ini_L cd_L_tick) hd_L_tick rfl ⟨rfl, rfl⟩ S0 hK hP00 hO hS (fun a h => h.elim (hn0 a) (fun e9 => by rw [e9]; exact hno)) (rest := []) rfl hl.1 (Nat.le_of_ble_eq_true rfl) ⟨(Nat.le_of_ble_eq_true rfl), (Nat.le_of_ble_eq_true rfl)⟩ ⟨by show _ ≤ 1067; omega, by show _ ≤ 8619; omega⟩ dL_law_269 (fun H1 locs1 hP0 hO hS hz hk hex => ?_)
    have hP1 := hP1.kept (H1 := H1) (fun a ha h => hk a ha (fun h9 => h9.elim (fun h8 => h01 a h8 h) (fun e9 => h1o (by rw [← e9]; exact h))))
    have hOD := hOD.kept (H1 := H1) (hk od hOD.lt (fun h9 => h9.elim h0d (fun e9 => hod e9.symm)))
    refine lv_istore hx hb dL_law_272 hl (by decide) rfl (fun ls hl => ?_)
    have hl : lv_has ls 9 [(6, .int 0), (0, .ref b), (1, .ref (q0 0)), (2, .ref (q1 0)), (3, .ref o), (4, .ref od), (5, .int i)] := hl
    refine lv_aload_n hx hb dL_law_274 rfl (lv_at hl 3 rfl) ?_
    refine lv_aload_n hx hb dL_law_275 rfl (lv_at hl 1 rfl) ?_
    refine lv_iload hx hb dL_law_276 (lv_at hl 6 rfl) ?_
    refine lv_iconst (v := 1) hx hb dL_law_278 (by decide) ?_
    refine lv_iadd hx hb dL_law_279 ?_
    refine va_sld hx hb hX hbl hbA hS hi1 dL_law_280 ?_
    have hcs : cells ≤ room_1.cells ∧ slots ≤ room_1.slots := ⟨by show _ ≤ 1067; omega, by show _ ≤ 8619; omega⟩
    refine gl_WI (A := An s) (k_X1_tick l E q1 hq1 hT hC σ hI (xs (i + 1).toNatClampNeg)) gw_L_110 hd_X1_tick ⟨rfl, rfl⟩ S0 hK hP1 hS (fun a h => hn1 a h) (rest := []) rfl hl.1 (Nat.le_of_ble_eq_true rfl) ⟨(Nat.le_of_ble_eq_true rfl), (Nat.le_of_ble_eq_true rfl)⟩ hcs dL_law_281 (fun H2 locs2 hP1 hS hz2 hk2 hex2 => ?_)
    obtain ⟨hg, hf, h17⟩ := (q_tick hT hC hI (xs (i + 1).toNatClampNeg)).1 he
    rw [hg] at hP1
    rw [hf]
    have hP0 := hP0.kept (H1 := H2) (fun a ha h => hk2 a ha (h01 a h))
    have hO := hO.kept (H1 := H2) (hk2 o hO.lt h1o)
    have hOD := hOD.kept (H1 := H2) (hk2 od hOD.lt h1d)
    refine lv_istore hx hb dL_law_284 hl (by decide) rfl (fun ls hl => ?_)
    have hl : lv_has ls 9 [(7, .int (f_X0_tick T C (sS σ 17 0) (xs (i + 1).toNatClampNeg))), (6, .int 0), (0, .ref b), (1, .ref (q0 0)), (2, .ref (q1 0)), (3, .ref o), (4, .ref od), (5, .int i)] := hl
    refine lv_aload_n hx hb dL_law_286 rfl (lv_at hl 4 rfl) ?_
    obtain ⟨T1, C1, hp1⟩ := hpl he hex
    refine cl_RI (k_X1_thrown l E q1 hq1 hp1.1 hp1.2.1 (g_X0_tick T C (sS σ 17 0) (xs (i + 1).toNatClampNeg)) hp1.2.2.1) gw_L_99 hd_X1_thrown ⟨rfl, rfl⟩ S0 hK hP1 (rest := []) rfl hl.1 (Nat.le_of_ble_eq_true rfl) ⟨(Nat.le_of_ble_eq_true rfl), (Nat.le_of_ble_eq_true rfl)⟩ hcs dL_law_287 (fun _ => ?_)
    rw [show f_X1_thrown T1 C1 (g_X0_tick T C (sS σ 17 0) (xs (i + 1).toNatClampNeg)) = 0 from h17]
    refine lv_iload hx hb dL_law_290 (lv_at hl 1 rfl) ?_
    refine lv_icmp_eq (tgt := 297) hx hb dL_law_292 (by decide) (fun _ => ?_) (fun h => absurd rfl h)
    refine lv_iload hx hb dL_law_297 (lv_at hl 1 rfl) ?_
    refine lv_if_ne (tgt := 314) hx hb dL_law_299 (by decide) (fun h => absurd rfl h) (fun _ => ?_)
    obtain ⟨fo, hfo, hPO⟩ := hO
    refine lv_aload_n hx hb dL_law_302 rfl (lv_at hl 5 rfl) ?_
    refine lv_iconst (v := 0) hx hb dL_law_303 (by decide) ?_
    refine va_lald hx hb hK hPO 0 1 rfl rfl (by unfold vp_in; decide) dL_law_304 ?_
    rw [show fo (0 : Int32).toNatClampNeg = (Int32.toInt64 (f_X0_tick T C (sS σ 17 0) (xs (i + 1).toNatClampNeg))) from hfo]
    refine lv_iload hx hb dL_law_305 (lv_at hl 0 rfl) ?_
    refine lv_i2l (v := (Int32.toInt64 (f_X0_tick T C (sS σ 17 0) (xs (i + 1).toNatClampNeg)))) hx hb dL_law_307 rfl ?_
    refine W.lcmp hx hb dL_law_308 ?_
    rw [lgc]
    refine lv_if_eq (tgt := 314) hx hb dL_law_309 (by decide) (fun _ => ?_) (fun h => absurd rfl h)
    refine lv_goto (tgt := 1609) hx hb dL_law_314 rfl ?_
    exact kk T1 C1 (g_X0_tick T C (sS σ 17 0) (xs (i + 1).toNatClampNeg)) H2 locs2 cells slots ls hp1 ⟨hP0, hP1, ⟨_, fo, hfo, hPO⟩, hOD, hS, by omega, by omega⟩ (lv_sub hl [2, 3, 4, 5, 6, 7] rfl)
  · refine ch_T (x_tick l hst E q0 hq0 hT hC σ hI o (xs (i + 1).toNatClampNeg) he) (gw_H ml_L_108 st_L_tick ini_L cd_L_tick) hd_L_tick rfl ⟨rfl, rfl⟩ S0 hK hP0 hXF hNC hS (rest := []) rfl hl.1 (Nat.le_of_ble_eq_true rfl) ⟨(Nat.le_of_ble_eq_true rfl), (Nat.le_of_ble_eq_true rfl)⟩ ⟨by show _ ≤ 1067; omega, by show _ ≤ 8619; omega⟩ dL_law_269 (fun H1 locs1 hS hz hk => ?_)
    have hP0 : PP 0 E q0 (sS σ 17 (e_X0_tick T C σ (xs (i + 1).toNatClampNeg))) H1 := hP0.kept (H1 := H1) (fun a ha _ => hk a ha)
    have hP1 := hP1.kept (H1 := H1) (fun a ha _ => hk a ha)
    have hO := hO.kept (H1 := H1) (hk o hO.lt)
    have hOD := hOD.kept (H1 := H1) (hk od hOD.lt)
    refine lv_istore hx hb dL_law_272 hl (by decide) rfl (fun ls hl => ?_)
    have hl : lv_has ls 9 [(6, .int (e_X0_tick T C σ (xs (i + 1).toNatClampNeg))), (0, .ref b), (1, .ref (q0 0)), (2, .ref (q1 0)), (3, .ref o), (4, .ref od), (5, .int i)] := hl
    refine lv_aload_n hx hb dL_law_274 rfl (lv_at hl 3 rfl) ?_
    refine lv_aload_n hx hb dL_law_275 rfl (lv_at hl 1 rfl) ?_
    refine lv_iload hx hb dL_law_276 (lv_at hl 6 rfl) ?_
    refine lv_iconst (v := 1) hx hb dL_law_278 (by decide) ?_
    refine lv_iadd hx hb dL_law_279 ?_
    refine va_sld hx hb hX hbl hbA hS hi1 dL_law_280 ?_
    have hcs : cells + 1 ≤ room_1.cells ∧ slots + 6 ≤ room_1.slots := ⟨by show _ ≤ 1067; omega, by show _ ≤ 8619; omega⟩
    refine gl_WI (A := An s) (k_X1_tick l E q1 hq1 hT hC σ hI (xs (i + 1).toNatClampNeg)) gw_L_110 hd_X1_tick ⟨rfl, rfl⟩ S0 hK hP1 hS (fun a h => hn1 a h) (rest := []) rfl hl.1 (Nat.le_of_ble_eq_true rfl) ⟨(Nat.le_of_ble_eq_true rfl), (Nat.le_of_ble_eq_true rfl)⟩ hcs dL_law_281 (fun H2 locs2 hP1 hS hz2 hk2 hex2 => ?_)
    have hg := (q_tick hT hC hI (xs (i + 1).toNatClampNeg)).2 he
    rw [hg] at hP1
    have hP0 := hP0.kept (H1 := H2) (fun a ha h => hk2 a ha (h01 a h))
    have hO := hO.kept (H1 := H2) (hk2 o hO.lt h1o)
    have hOD := hOD.kept (H1 := H2) (hk2 od hOD.lt h1d)
    refine lv_istore hx hb dL_law_284 hl (by decide) rfl (fun ls hl => ?_)
    have hl : lv_has ls 9 [(7, .int (f_X1_tick T C σ (xs (i + 1).toNatClampNeg))), (6, .int (e_X0_tick T C σ (xs (i + 1).toNatClampNeg))), (0, .ref b), (1, .ref (q0 0)), (2, .ref (q1 0)), (3, .ref o), (4, .ref od), (5, .int i)] := hl
    refine lv_aload_n hx hb dL_law_286 rfl (lv_at hl 4 rfl) ?_
    refine cl_RI (k_X1_thrown l E q1 hq1 (hp.s17 (e_X0_tick T C σ (xs (i + 1).toNatClampNeg))).1 (hp.s17 (e_X0_tick T C σ (xs (i + 1).toNatClampNeg))).2.1 (sS σ 17 (e_X0_tick T C σ (xs (i + 1).toNatClampNeg))) (hp.s17 (e_X0_tick T C σ (xs (i + 1).toNatClampNeg))).2.2.1) gw_L_99 hd_X1_thrown ⟨rfl, rfl⟩ S0 hK hP1 (rest := []) rfl hl.1 (Nat.le_of_ble_eq_true rfl) ⟨(Nat.le_of_ble_eq_true rfl), (Nat.le_of_ble_eq_true rfl)⟩ hcs dL_law_287 (fun _ => ?_)
    rw [show f_X1_thrown T C (sS σ 17 (e_X0_tick T C σ (xs (i + 1).toNatClampNeg))) = (e_X0_tick T C σ (xs (i + 1).toNatClampNeg)) from rfl]
    refine lv_iload hx hb dL_law_290 (lv_at hl 1 rfl) ?_
    refine lv_icmp_eq (tgt := 297) hx hb dL_law_292 (by decide) (fun _ => ?_) (fun h => absurd rfl h)
    refine lv_iload hx hb dL_law_297 (lv_at hl 1 rfl) ?_
    refine lv_if_ne (tgt := 314) hx hb dL_law_299 (by decide) (fun _ => ?_) (fun h => absurd h he)
    refine lv_goto (tgt := 1609) hx hb dL_law_314 rfl ?_
    exact kk T C (sS σ 17 (e_X0_tick T C σ (xs (i + 1).toNatClampNeg))) H2 locs2 (cells + 1) (slots + 6) ls (hp.s17 _) ⟨hP0, hP1, ⟨_, hO⟩, hOD, hS, by omega, by omega⟩ (lv_sub hl [2, 3, 4, 5, 6, 7] rfl)
set_option maxHeartbeats 1000000 in
theorem c_createTask {p : Program} {l : Launch} {e : Env} {s : State} {m : MethodId} {args : Array Value} {below : List Frame} {meth : Method} {c : Code} {H : Heap} {locs : List Loc} {cells slots : Nat} {Q : State → Prop} {ls : Array Slot} {E : Ev} {dD : ClassId} {q0 q1 : Nat → Nat} {o od b L T C n : Nat} {xs : Nat → Int32} {i : Int32} {σ : St} (hst : l.stackTraces = false) (S0 : Fx p m c cL_law 9 s args RL) (K : LK E dD q0 q1 o od b L xs s) (hp : LPs T C n σ) (hh : LH E dD q0 q1 o od s n σ H locs cells slots) (hn : n < 512) (hl : lv_has ls 9 [(0, .ref b), (1, .ref (q0 0)), (2, .ref (q1 0)), (3, .ref o), (4, .ref od), (5, .int i)]) (hi1 : vp_in (i + 1) L) (hi2 : vp_in (i + 2) L) (hi3 : vp_in (i + 3) L)
    (hpl : (e_X0_createTask T C σ (xs (i + 1).toNatClampNeg) (xs (i + 2).toNatClampNeg) (xs (i + 3).toNatClampNeg)) = 0 → True → ∃ T1 C1 : Nat, LPs T1 C1 (n + 1) (g_X0_createTask T C (sS σ 17 0) (xs (i + 1).toNatClampNeg) (xs (i + 2).toNatClampNeg) (xs (i + 3).toNatClampNeg)))
    (kk : ∀ (T1 C1 : Nat) (σ1 : St) (H1 : Heap) (locs1 : List Loc) (c1 s1 : Nat) (ls : Array Slot), LPs T1 C1 (n + 1) σ1 → LH E dD q0 q1 o od s (n + 1) σ1 H1 locs1 c1 s1 → lv_has ls 9 [(0, .ref b), (1, .ref (q0 0)), (2, .ref (q1 0)), (3, .ref o), (4, .ref od), (5, .int i)] → W p l e room_1 s m args below meth c H1 locs1 c1 s1 Q (F0 m 1609 ls [])) : W p l e room_1 s m args below meth c H locs cells slots Q (F0 m 317 ls []) := by
  obtain ⟨⟨hq0, hq1, hn0, hn1, hno, hnd⟩, ⟨h01, h0o, h1o, h0d, h1d, hod⟩, ⟨hX, hbl, hL⟩, hK, hKD, hXF, hNC⟩ := K
  obtain ⟨hP0, hP1, ⟨w0, hO⟩, hOD, hS, hcl, hsl⟩ := hh
  have hT := hp.1
  have hC := hp.2.1
  have hI := hp.2.2.1
  have hx := S0.1
  have hb := S0.2.1
  have hbA : ¬ An s b := Nat.not_le.mpr hbl
  refine lv_aload_n hx hb dL_law_317 rfl (lv_at hl 1 rfl) ?_
  refine lv_aload_n hx hb dL_law_318 rfl (lv_at hl 0 rfl) ?_
  refine lv_iload hx hb dL_law_319 (lv_at hl 5 rfl) ?_
  refine lv_iconst (v := 1) hx hb dL_law_321 (by decide) ?_
  refine lv_iadd hx hb dL_law_322 ?_
  refine va_sld hx hb hX hbl hbA hS hi1 dL_law_323 ?_
  refine lv_aload_n hx hb dL_law_324 rfl (lv_at hl 0 rfl) ?_
  refine lv_iload hx hb dL_law_325 (lv_at hl 5 rfl) ?_
  refine lv_iconst (v := 2) hx hb dL_law_327 (by decide) ?_
  refine lv_iadd hx hb dL_law_328 ?_
  refine va_sld hx hb hX hbl hbA hS hi2 dL_law_329 ?_
  refine lv_aload_n hx hb dL_law_330 rfl (lv_at hl 0 rfl) ?_
  refine lv_iload hx hb dL_law_331 (lv_at hl 5 rfl) ?_
  refine lv_iconst (v := 3) hx hb dL_law_333 (by decide) ?_
  refine lv_iadd hx hb dL_law_334 ?_
  refine va_sld hx hb hX hbl hbA hS hi3 dL_law_335 ?_
  refine lv_aload_n hx hb dL_law_336 rfl (lv_at hl 3 rfl) ?_
  by_cases he : (e_X0_createTask T C σ (xs (i + 1).toNatClampNeg) (xs (i + 2).toNatClampNeg) (xs (i + 3).toNatClampNeg)) = 0
  · have he0 : e_X0_createTask T C (sS σ 17 0) (xs (i + 1).toNatClampNeg) (xs (i + 2).toNatClampNeg) (xs (i + 3).toNatClampNeg) = 0 := he
    have hP00 : PP 0 E q0 (sS σ 17 0) H := hP0
    refine ch_N (h_createTask l E q0 hq0 hT hC (sS σ 17 0) (inv_sS ⟨by decide, by decide⟩ hI) o h0o (xs (i + 1).toNatClampNeg) (xs (i + 2).toNatClampNeg) (xs (i + 3).toNatClampNeg) he0) (gw_H ml_L_111 st_L_createTask ini_L cd_L_createTask) hd_L_createTask rfl ⟨rfl, rfl⟩ S0 hK hP00 hO hS (fun a h => h.elim (hn0 a) (fun e9 => by rw [e9]; exact hno)) (rest := []) rfl hl.1 (Nat.le_of_ble_eq_true rfl) ⟨(Nat.le_of_ble_eq_true rfl), (Nat.le_of_ble_eq_true rfl)⟩ ⟨by show _ ≤ 1067; omega, by show _ ≤ 8619; omega⟩ dL_law_337 (fun H1 locs1 hP0 hO hS hz hk hex => ?_)
    have hP1 := hP1.kept (H1 := H1) (fun a ha h => hk a ha (fun h9 => h9.elim (fun h8 => h01 a h8 h) (fun e9 => h1o (by rw [← e9]; exact h))))
    have hOD := hOD.kept (H1 := H1) (hk od hOD.lt (fun h9 => h9.elim h0d (fun e9 => hod e9.symm)))
    refine lv_istore hx hb dL_law_340 hl (by decide) rfl (fun ls hl => ?_)
    have hl : lv_has ls 9 [(6, .int 0), (0, .ref b), (1, .ref (q0 0)), (2, .ref (q1 0)), (3, .ref o), (4, .ref od), (5, .int i)] := hl
    refine lv_aload_n hx hb dL_law_342 rfl (lv_at hl 3 rfl) ?_
    refine lv_aload_n hx hb dL_law_343 rfl (lv_at hl 1 rfl) ?_
    refine lv_iload hx hb dL_law_344 (lv_at hl 6 rfl) ?_
    refine lv_iconst (v := 1) hx hb dL_law_346 (by decide) ?_
    refine lv_iadd hx hb dL_law_347 ?_
    refine va_sld hx hb hX hbl hbA hS hi1 dL_law_348 ?_
    refine lv_aload_n hx hb dL_law_349 rfl (lv_at hl 1 rfl) ?_
    refine lv_iload hx hb dL_law_350 (lv_at hl 6 rfl) ?_
    refine lv_iconst (v := 2) hx hb dL_law_352 (by decide) ?_
    refine lv_iadd hx hb dL_law_353 ?_
    refine va_sld hx hb hX hbl hbA hS hi2 dL_law_354 ?_
    refine lv_aload_n hx hb dL_law_355 rfl (lv_at hl 1 rfl) ?_
    refine lv_iload hx hb dL_law_356 (lv_at hl 6 rfl) ?_
    refine lv_iconst (v := 3) hx hb dL_law_358 (by decide) ?_
    refine lv_iadd hx hb dL_law_359 ?_
    refine va_sld hx hb hX hbl hbA hS hi3 dL_law_360 ?_
    have hcs : cells ≤ room_1.cells ∧ slots ≤ room_1.slots := ⟨by show _ ≤ 1067; omega, by show _ ≤ 8619; omega⟩
    refine gl_WI (A := An s) (k_X1_createTask l E q1 hq1 hT hC σ hI (xs (i + 1).toNatClampNeg) (xs (i + 2).toNatClampNeg) (xs (i + 3).toNatClampNeg)) gw_L_114 hd_X1_createTask ⟨rfl, rfl⟩ S0 hK hP1 hS (fun a h => hn1 a h) (rest := []) rfl hl.1 (Nat.le_of_ble_eq_true rfl) ⟨(Nat.le_of_ble_eq_true rfl), (Nat.le_of_ble_eq_true rfl)⟩ hcs dL_law_361 (fun H2 locs2 hP1 hS hz2 hk2 hex2 => ?_)
    obtain ⟨hg, hf, h17⟩ := (q_createTask hT hC hI (xs (i + 1).toNatClampNeg) (xs (i + 2).toNatClampNeg) (xs (i + 3).toNatClampNeg)).1 he
    rw [hg] at hP1
    rw [hf]
    have hP0 := hP0.kept (H1 := H2) (fun a ha h => hk2 a ha (h01 a h))
    have hO := hO.kept (H1 := H2) (hk2 o hO.lt h1o)
    have hOD := hOD.kept (H1 := H2) (hk2 od hOD.lt h1d)
    refine lv_istore hx hb dL_law_364 hl (by decide) rfl (fun ls hl => ?_)
    have hl : lv_has ls 9 [(7, .int (f_X0_createTask T C (sS σ 17 0) (xs (i + 1).toNatClampNeg) (xs (i + 2).toNatClampNeg) (xs (i + 3).toNatClampNeg))), (6, .int 0), (0, .ref b), (1, .ref (q0 0)), (2, .ref (q1 0)), (3, .ref o), (4, .ref od), (5, .int i)] := hl
    refine lv_aload_n hx hb dL_law_366 rfl (lv_at hl 4 rfl) ?_
    obtain ⟨T1, C1, hp1⟩ := hpl he hex
    refine cl_RI (k_X1_thrown l E q1 hq1 hp1.1 hp1.2.1 (g_X0_createTask T C (sS σ 17 0) (xs (i + 1).toNatClampNeg) (xs (i + 2).toNatClampNeg) (xs (i + 3).toNatClampNeg)) hp1.2.2.1) gw_L_99 hd_X1_thrown ⟨rfl, rfl⟩ S0 hK hP1 (rest := []) rfl hl.1 (Nat.le_of_ble_eq_true rfl) ⟨(Nat.le_of_ble_eq_true rfl), (Nat.le_of_ble_eq_true rfl)⟩ hcs dL_law_367 (fun _ => ?_)
    rw [show f_X1_thrown T1 C1 (g_X0_createTask T C (sS σ 17 0) (xs (i + 1).toNatClampNeg) (xs (i + 2).toNatClampNeg) (xs (i + 3).toNatClampNeg)) = 0 from h17]
    refine lv_iload hx hb dL_law_370 (lv_at hl 1 rfl) ?_
    refine lv_icmp_eq (tgt := 377) hx hb dL_law_372 (by decide) (fun _ => ?_) (fun h => absurd rfl h)
    refine lv_iload hx hb dL_law_377 (lv_at hl 1 rfl) ?_
    refine lv_if_ne (tgt := 394) hx hb dL_law_379 (by decide) (fun h => absurd rfl h) (fun _ => ?_)
    obtain ⟨fo, hfo, hPO⟩ := hO
    refine lv_aload_n hx hb dL_law_382 rfl (lv_at hl 5 rfl) ?_
    refine lv_iconst (v := 0) hx hb dL_law_383 (by decide) ?_
    refine va_lald hx hb hK hPO 0 1 rfl rfl (by unfold vp_in; decide) dL_law_384 ?_
    rw [show fo (0 : Int32).toNatClampNeg = (Int32.toInt64 (f_X0_createTask T C (sS σ 17 0) (xs (i + 1).toNatClampNeg) (xs (i + 2).toNatClampNeg) (xs (i + 3).toNatClampNeg))) from hfo]
    refine lv_iload hx hb dL_law_385 (lv_at hl 0 rfl) ?_
    refine lv_i2l (v := (Int32.toInt64 (f_X0_createTask T C (sS σ 17 0) (xs (i + 1).toNatClampNeg) (xs (i + 2).toNatClampNeg) (xs (i + 3).toNatClampNeg)))) hx hb dL_law_387 rfl ?_
    refine W.lcmp hx hb dL_law_388 ?_
    rw [lgc]
    refine lv_if_eq (tgt := 394) hx hb dL_law_389 (by decide) (fun _ => ?_) (fun h => absurd rfl h)
    refine lv_goto (tgt := 1609) hx hb dL_law_394 rfl ?_
    exact kk T1 C1 (g_X0_createTask T C (sS σ 17 0) (xs (i + 1).toNatClampNeg) (xs (i + 2).toNatClampNeg) (xs (i + 3).toNatClampNeg)) H2 locs2 cells slots ls hp1 ⟨hP0, hP1, ⟨_, fo, hfo, hPO⟩, hOD, hS, by omega, by omega⟩ (lv_sub hl [2, 3, 4, 5, 6, 7] rfl)
  · refine ch_T (x_createTask l hst E q0 hq0 hT hC σ hI o (xs (i + 1).toNatClampNeg) (xs (i + 2).toNatClampNeg) (xs (i + 3).toNatClampNeg) he) (gw_H ml_L_111 st_L_createTask ini_L cd_L_createTask) hd_L_createTask rfl ⟨rfl, rfl⟩ S0 hK hP0 hXF hNC hS (rest := []) rfl hl.1 (Nat.le_of_ble_eq_true rfl) ⟨(Nat.le_of_ble_eq_true rfl), (Nat.le_of_ble_eq_true rfl)⟩ ⟨by show _ ≤ 1067; omega, by show _ ≤ 8619; omega⟩ dL_law_337 (fun H1 locs1 hS hz hk => ?_)
    have hP0 : PP 0 E q0 (sS σ 17 (e_X0_createTask T C σ (xs (i + 1).toNatClampNeg) (xs (i + 2).toNatClampNeg) (xs (i + 3).toNatClampNeg))) H1 := hP0.kept (H1 := H1) (fun a ha _ => hk a ha)
    have hP1 := hP1.kept (H1 := H1) (fun a ha _ => hk a ha)
    have hO := hO.kept (H1 := H1) (hk o hO.lt)
    have hOD := hOD.kept (H1 := H1) (hk od hOD.lt)
    refine lv_istore hx hb dL_law_340 hl (by decide) rfl (fun ls hl => ?_)
    have hl : lv_has ls 9 [(6, .int (e_X0_createTask T C σ (xs (i + 1).toNatClampNeg) (xs (i + 2).toNatClampNeg) (xs (i + 3).toNatClampNeg))), (0, .ref b), (1, .ref (q0 0)), (2, .ref (q1 0)), (3, .ref o), (4, .ref od), (5, .int i)] := hl
    refine lv_aload_n hx hb dL_law_342 rfl (lv_at hl 3 rfl) ?_
    refine lv_aload_n hx hb dL_law_343 rfl (lv_at hl 1 rfl) ?_
    refine lv_iload hx hb dL_law_344 (lv_at hl 6 rfl) ?_
    refine lv_iconst (v := 1) hx hb dL_law_346 (by decide) ?_
    refine lv_iadd hx hb dL_law_347 ?_
    refine va_sld hx hb hX hbl hbA hS hi1 dL_law_348 ?_
    refine lv_aload_n hx hb dL_law_349 rfl (lv_at hl 1 rfl) ?_
    refine lv_iload hx hb dL_law_350 (lv_at hl 6 rfl) ?_
    refine lv_iconst (v := 2) hx hb dL_law_352 (by decide) ?_
    refine lv_iadd hx hb dL_law_353 ?_
    refine va_sld hx hb hX hbl hbA hS hi2 dL_law_354 ?_
    refine lv_aload_n hx hb dL_law_355 rfl (lv_at hl 1 rfl) ?_
    refine lv_iload hx hb dL_law_356 (lv_at hl 6 rfl) ?_
    refine lv_iconst (v := 3) hx hb dL_law_358 (by decide) ?_
    refine lv_iadd hx hb dL_law_359 ?_
    refine va_sld hx hb hX hbl hbA hS hi3 dL_law_360 ?_
    have hcs : cells + 1 ≤ room_1.cells ∧ slots + 6 ≤ room_1.slots := ⟨by show _ ≤ 1067; omega, by show _ ≤ 8619; omega⟩
    refine gl_WI (A := An s) (k_X1_createTask l E q1 hq1 hT hC σ hI (xs (i + 1).toNatClampNeg) (xs (i + 2).toNatClampNeg) (xs (i + 3).toNatClampNeg)) gw_L_114 hd_X1_createTask ⟨rfl, rfl⟩ S0 hK hP1 hS (fun a h => hn1 a h) (rest := []) rfl hl.1 (Nat.le_of_ble_eq_true rfl) ⟨(Nat.le_of_ble_eq_true rfl), (Nat.le_of_ble_eq_true rfl)⟩ hcs dL_law_361 (fun H2 locs2 hP1 hS hz2 hk2 hex2 => ?_)
    have hg := (q_createTask hT hC hI (xs (i + 1).toNatClampNeg) (xs (i + 2).toNatClampNeg) (xs (i + 3).toNatClampNeg)).2 he
    rw [hg] at hP1
    have hP0 := hP0.kept (H1 := H2) (fun a ha h => hk2 a ha (h01 a h))
    have hO := hO.kept (H1 := H2) (hk2 o hO.lt h1o)
    have hOD := hOD.kept (H1 := H2) (hk2 od hOD.lt h1d)
    refine lv_istore hx hb dL_law_364 hl (by decide) rfl (fun ls hl => ?_)
    have hl : lv_has ls 9 [(7, .int (f_X1_createTask T C σ (xs (i + 1).toNatClampNeg) (xs (i + 2).toNatClampNeg) (xs (i + 3).toNatClampNeg))), (6, .int (e_X0_createTask T C σ (xs (i + 1).toNatClampNeg) (xs (i + 2).toNatClampNeg) (xs (i + 3).toNatClampNeg))), (0, .ref b), (1, .ref (q0 0)), (2, .ref (q1 0)), (3, .ref o), (4, .ref od), (5, .int i)] := hl
    refine lv_aload_n hx hb dL_law_366 rfl (lv_at hl 4 rfl) ?_
    refine cl_RI (k_X1_thrown l E q1 hq1 (hp.s17 (e_X0_createTask T C σ (xs (i + 1).toNatClampNeg) (xs (i + 2).toNatClampNeg) (xs (i + 3).toNatClampNeg))).1 (hp.s17 (e_X0_createTask T C σ (xs (i + 1).toNatClampNeg) (xs (i + 2).toNatClampNeg) (xs (i + 3).toNatClampNeg))).2.1 (sS σ 17 (e_X0_createTask T C σ (xs (i + 1).toNatClampNeg) (xs (i + 2).toNatClampNeg) (xs (i + 3).toNatClampNeg))) (hp.s17 (e_X0_createTask T C σ (xs (i + 1).toNatClampNeg) (xs (i + 2).toNatClampNeg) (xs (i + 3).toNatClampNeg))).2.2.1) gw_L_99 hd_X1_thrown ⟨rfl, rfl⟩ S0 hK hP1 (rest := []) rfl hl.1 (Nat.le_of_ble_eq_true rfl) ⟨(Nat.le_of_ble_eq_true rfl), (Nat.le_of_ble_eq_true rfl)⟩ hcs dL_law_367 (fun _ => ?_)
    rw [show f_X1_thrown T C (sS σ 17 (e_X0_createTask T C σ (xs (i + 1).toNatClampNeg) (xs (i + 2).toNatClampNeg) (xs (i + 3).toNatClampNeg))) = (e_X0_createTask T C σ (xs (i + 1).toNatClampNeg) (xs (i + 2).toNatClampNeg) (xs (i + 3).toNatClampNeg)) from rfl]
    refine lv_iload hx hb dL_law_370 (lv_at hl 1 rfl) ?_
    refine lv_icmp_eq (tgt := 377) hx hb dL_law_372 (by decide) (fun _ => ?_) (fun h => absurd rfl h)
    refine lv_iload hx hb dL_law_377 (lv_at hl 1 rfl) ?_
    refine lv_if_ne (tgt := 394) hx hb dL_law_379 (by decide) (fun _ => ?_) (fun h => absurd h he)
    refine lv_goto (tgt := 1609) hx hb dL_law_394 rfl ?_
    exact kk T C (sS σ 17 (e_X0_createTask T C σ (xs (i + 1).toNatClampNeg) (xs (i + 2).toNatClampNeg) (xs (i + 3).toNatClampNeg))) H2 locs2 (cells + 1) (slots + 6) ls (hp.s17 _) ⟨hP0, hP1, ⟨_, hO⟩, hOD, hS, by omega, by omega⟩ (lv_sub hl [2, 3, 4, 5, 6, 7] rfl)
set_option maxHeartbeats 1000000 in
theorem c_sleep {p : Program} {l : Launch} {e : Env} {s : State} {m : MethodId} {args : Array Value} {below : List Frame} {meth : Method} {c : Code} {H : Heap} {locs : List Loc} {cells slots : Nat} {Q : State → Prop} {ls : Array Slot} {E : Ev} {dD : ClassId} {q0 q1 : Nat → Nat} {o od b L T C n : Nat} {xs : Nat → Int32} {i : Int32} {σ : St} (hst : l.stackTraces = false) (S0 : Fx p m c cL_law 9 s args RL) (K : LK E dD q0 q1 o od b L xs s) (hp : LPs T C n σ) (hh : LH E dD q0 q1 o od s n σ H locs cells slots) (hn : n < 512) (hl : lv_has ls 9 [(0, .ref b), (1, .ref (q0 0)), (2, .ref (q1 0)), (3, .ref o), (4, .ref od), (5, .int i)]) (hi1 : vp_in (i + 1) L) (hi2 : vp_in (i + 2) L) (hi3 : vp_in (i + 3) L)
    (hpl : (e_X0_sleep T C σ (xs (i + 1).toNatClampNeg)) = 0 → Inv T C (g_X0_sleep T C (sS σ 17 0) (xs (i + 1).toNatClampNeg)) ∧ True → ∃ T1 C1 : Nat, LPs T1 C1 (n + 1) (g_X0_sleep T C (sS σ 17 0) (xs (i + 1).toNatClampNeg)))
    (kk : ∀ (T1 C1 : Nat) (σ1 : St) (H1 : Heap) (locs1 : List Loc) (c1 s1 : Nat) (ls : Array Slot), LPs T1 C1 (n + 1) σ1 → LH E dD q0 q1 o od s (n + 1) σ1 H1 locs1 c1 s1 → lv_has ls 9 [(0, .ref b), (1, .ref (q0 0)), (2, .ref (q1 0)), (3, .ref o), (4, .ref od), (5, .int i)] → W p l e room_1 s m args below meth c H1 locs1 c1 s1 Q (F0 m 1609 ls [])) : W p l e room_1 s m args below meth c H locs cells slots Q (F0 m 397 ls []) := by
  obtain ⟨⟨hq0, hq1, hn0, hn1, hno, hnd⟩, ⟨h01, h0o, h1o, h0d, h1d, hod⟩, ⟨hX, hbl, hL⟩, hK, hKD, hXF, hNC⟩ := K
  obtain ⟨hP0, hP1, ⟨w0, hO⟩, hOD, hS, hcl, hsl⟩ := hh
  have hT := hp.1
  have hC := hp.2.1
  have hI := hp.2.2.1
  have hx := S0.1
  have hb := S0.2.1
  have hbA : ¬ An s b := Nat.not_le.mpr hbl
  refine lv_aload_n hx hb dL_law_397 rfl (lv_at hl 1 rfl) ?_
  refine lv_aload_n hx hb dL_law_398 rfl (lv_at hl 0 rfl) ?_
  refine lv_iload hx hb dL_law_399 (lv_at hl 5 rfl) ?_
  refine lv_iconst (v := 1) hx hb dL_law_401 (by decide) ?_
  refine lv_iadd hx hb dL_law_402 ?_
  refine va_sld hx hb hX hbl hbA hS hi1 dL_law_403 ?_
  refine lv_aload_n hx hb dL_law_404 rfl (lv_at hl 3 rfl) ?_
  by_cases he : (e_X0_sleep T C σ (xs (i + 1).toNatClampNeg)) = 0
  · have he0 : e_X0_sleep T C (sS σ 17 0) (xs (i + 1).toNatClampNeg) = 0 := he
    have hP00 : PP 0 E q0 (sS σ 17 0) H := hP0
    refine ch_N (h_sleep l E q0 hq0 hT hC (sS σ 17 0) (inv_sS ⟨by decide, by decide⟩ hI) o h0o (xs (i + 1).toNatClampNeg) he0) (gw_H ml_L_115 st_L_sleep ini_L cd_L_sleep) hd_L_sleep rfl ⟨rfl, rfl⟩ S0 hK hP00 hO hS (fun a h => h.elim (hn0 a) (fun e9 => by rw [e9]; exact hno)) (rest := []) rfl hl.1 (Nat.le_of_ble_eq_true rfl) ⟨(Nat.le_of_ble_eq_true rfl), (Nat.le_of_ble_eq_true rfl)⟩ ⟨by show _ ≤ 1067; omega, by show _ ≤ 8619; omega⟩ dL_law_405 (fun H1 locs1 hP0 hO hS hz hk hex => ?_)
    have hP1 := hP1.kept (H1 := H1) (fun a ha h => hk a ha (fun h9 => h9.elim (fun h8 => h01 a h8 h) (fun e9 => h1o (by rw [← e9]; exact h))))
    have hOD := hOD.kept (H1 := H1) (hk od hOD.lt (fun h9 => h9.elim h0d (fun e9 => hod e9.symm)))
    refine lv_istore hx hb dL_law_408 hl (by decide) rfl (fun ls hl => ?_)
    have hl : lv_has ls 9 [(6, .int 0), (0, .ref b), (1, .ref (q0 0)), (2, .ref (q1 0)), (3, .ref o), (4, .ref od), (5, .int i)] := hl
    refine lv_aload_n hx hb dL_law_410 rfl (lv_at hl 3 rfl) ?_
    refine lv_aload_n hx hb dL_law_411 rfl (lv_at hl 1 rfl) ?_
    refine lv_iload hx hb dL_law_412 (lv_at hl 6 rfl) ?_
    refine lv_iconst (v := 1) hx hb dL_law_414 (by decide) ?_
    refine lv_iadd hx hb dL_law_415 ?_
    refine va_sld hx hb hX hbl hbA hS hi1 dL_law_416 ?_
    have hcs : cells ≤ room_1.cells ∧ slots ≤ room_1.slots := ⟨by show _ ≤ 1067; omega, by show _ ≤ 8619; omega⟩
    refine gl_WI (A := An s) (k_X1_sleep l E q1 hq1 hT hC σ hI (xs (i + 1).toNatClampNeg)) gw_L_117 hd_X1_sleep ⟨rfl, rfl⟩ S0 hK hP1 hS (fun a h => hn1 a h) (rest := []) rfl hl.1 (Nat.le_of_ble_eq_true rfl) ⟨(Nat.le_of_ble_eq_true rfl), (Nat.le_of_ble_eq_true rfl)⟩ hcs dL_law_417 (fun H2 locs2 hP1 hS hz2 hk2 hex2 => ?_)
    obtain ⟨hg, hf, h17⟩ := (q_sleep hT hC hI (xs (i + 1).toNatClampNeg)).1 he
    rw [hg] at hP1
    rw [hf]
    have hP0 := hP0.kept (H1 := H2) (fun a ha h => hk2 a ha (h01 a h))
    have hO := hO.kept (H1 := H2) (hk2 o hO.lt h1o)
    have hOD := hOD.kept (H1 := H2) (hk2 od hOD.lt h1d)
    refine lv_istore hx hb dL_law_420 hl (by decide) rfl (fun ls hl => ?_)
    have hl : lv_has ls 9 [(7, .int (f_X0_sleep T C (sS σ 17 0) (xs (i + 1).toNatClampNeg))), (6, .int 0), (0, .ref b), (1, .ref (q0 0)), (2, .ref (q1 0)), (3, .ref o), (4, .ref od), (5, .int i)] := hl
    refine lv_aload_n hx hb dL_law_422 rfl (lv_at hl 4 rfl) ?_
    obtain ⟨T1, C1, hp1⟩ := hpl he hex
    refine cl_RI (k_X1_thrown l E q1 hq1 hp1.1 hp1.2.1 (g_X0_sleep T C (sS σ 17 0) (xs (i + 1).toNatClampNeg)) hp1.2.2.1) gw_L_99 hd_X1_thrown ⟨rfl, rfl⟩ S0 hK hP1 (rest := []) rfl hl.1 (Nat.le_of_ble_eq_true rfl) ⟨(Nat.le_of_ble_eq_true rfl), (Nat.le_of_ble_eq_true rfl)⟩ hcs dL_law_423 (fun _ => ?_)
    rw [show f_X1_thrown T1 C1 (g_X0_sleep T C (sS σ 17 0) (xs (i + 1).toNatClampNeg)) = 0 from h17]
    refine lv_iload hx hb dL_law_426 (lv_at hl 1 rfl) ?_
    refine lv_icmp_eq (tgt := 433) hx hb dL_law_428 (by decide) (fun _ => ?_) (fun h => absurd rfl h)
    refine lv_iload hx hb dL_law_433 (lv_at hl 1 rfl) ?_
    refine lv_if_ne (tgt := 450) hx hb dL_law_435 (by decide) (fun h => absurd rfl h) (fun _ => ?_)
    obtain ⟨fo, hfo, hPO⟩ := hO
    refine lv_aload_n hx hb dL_law_438 rfl (lv_at hl 5 rfl) ?_
    refine lv_iconst (v := 0) hx hb dL_law_439 (by decide) ?_
    refine va_lald hx hb hK hPO 0 1 rfl rfl (by unfold vp_in; decide) dL_law_440 ?_
    rw [show fo (0 : Int32).toNatClampNeg = (Int32.toInt64 (f_X0_sleep T C (sS σ 17 0) (xs (i + 1).toNatClampNeg))) from hfo]
    refine lv_iload hx hb dL_law_441 (lv_at hl 0 rfl) ?_
    refine lv_i2l (v := (Int32.toInt64 (f_X0_sleep T C (sS σ 17 0) (xs (i + 1).toNatClampNeg)))) hx hb dL_law_443 rfl ?_
    refine W.lcmp hx hb dL_law_444 ?_
    rw [lgc]
    refine lv_if_eq (tgt := 450) hx hb dL_law_445 (by decide) (fun _ => ?_) (fun h => absurd rfl h)
    refine lv_goto (tgt := 1609) hx hb dL_law_450 rfl ?_
    exact kk T1 C1 (g_X0_sleep T C (sS σ 17 0) (xs (i + 1).toNatClampNeg)) H2 locs2 cells slots ls hp1 ⟨hP0, hP1, ⟨_, fo, hfo, hPO⟩, hOD, hS, by omega, by omega⟩ (lv_sub hl [2, 3, 4, 5, 6, 7] rfl)
  · refine ch_T (x_sleep l hst E q0 hq0 hT hC σ hI o (xs (i + 1).toNatClampNeg) he) (gw_H ml_L_115 st_L_sleep ini_L cd_L_sleep) hd_L_sleep rfl ⟨rfl, rfl⟩ S0 hK hP0 hXF hNC hS (rest := []) rfl hl.1 (Nat.le_of_ble_eq_true rfl) ⟨(Nat.le_of_ble_eq_true rfl), (Nat.le_of_ble_eq_true rfl)⟩ ⟨by show _ ≤ 1067; omega, by show _ ≤ 8619; omega⟩ dL_law_405 (fun H1 locs1 hS hz hk => ?_)
    have hP0 : PP 0 E q0 (sS σ 17 (e_X0_sleep T C σ (xs (i + 1).toNatClampNeg))) H1 := hP0.kept (H1 := H1) (fun a ha _ => hk a ha)
    have hP1 := hP1.kept (H1 := H1) (fun a ha _ => hk a ha)
    have hO := hO.kept (H1 := H1) (hk o hO.lt)
    have hOD := hOD.kept (H1 := H1) (hk od hOD.lt)
    refine lv_istore hx hb dL_law_408 hl (by decide) rfl (fun ls hl => ?_)
    have hl : lv_has ls 9 [(6, .int (e_X0_sleep T C σ (xs (i + 1).toNatClampNeg))), (0, .ref b), (1, .ref (q0 0)), (2, .ref (q1 0)), (3, .ref o), (4, .ref od), (5, .int i)] := hl
    refine lv_aload_n hx hb dL_law_410 rfl (lv_at hl 3 rfl) ?_
    refine lv_aload_n hx hb dL_law_411 rfl (lv_at hl 1 rfl) ?_
    refine lv_iload hx hb dL_law_412 (lv_at hl 6 rfl) ?_
    refine lv_iconst (v := 1) hx hb dL_law_414 (by decide) ?_
    refine lv_iadd hx hb dL_law_415 ?_
    refine va_sld hx hb hX hbl hbA hS hi1 dL_law_416 ?_
    have hcs : cells + 1 ≤ room_1.cells ∧ slots + 6 ≤ room_1.slots := ⟨by show _ ≤ 1067; omega, by show _ ≤ 8619; omega⟩
    refine gl_WI (A := An s) (k_X1_sleep l E q1 hq1 hT hC σ hI (xs (i + 1).toNatClampNeg)) gw_L_117 hd_X1_sleep ⟨rfl, rfl⟩ S0 hK hP1 hS (fun a h => hn1 a h) (rest := []) rfl hl.1 (Nat.le_of_ble_eq_true rfl) ⟨(Nat.le_of_ble_eq_true rfl), (Nat.le_of_ble_eq_true rfl)⟩ hcs dL_law_417 (fun H2 locs2 hP1 hS hz2 hk2 hex2 => ?_)
    have hg := (q_sleep hT hC hI (xs (i + 1).toNatClampNeg)).2 he
    rw [hg] at hP1
    have hP0 := hP0.kept (H1 := H2) (fun a ha h => hk2 a ha (h01 a h))
    have hO := hO.kept (H1 := H2) (hk2 o hO.lt h1o)
    have hOD := hOD.kept (H1 := H2) (hk2 od hOD.lt h1d)
    refine lv_istore hx hb dL_law_420 hl (by decide) rfl (fun ls hl => ?_)
    have hl : lv_has ls 9 [(7, .int (f_X1_sleep T C σ (xs (i + 1).toNatClampNeg))), (6, .int (e_X0_sleep T C σ (xs (i + 1).toNatClampNeg))), (0, .ref b), (1, .ref (q0 0)), (2, .ref (q1 0)), (3, .ref o), (4, .ref od), (5, .int i)] := hl
    refine lv_aload_n hx hb dL_law_422 rfl (lv_at hl 4 rfl) ?_
    refine cl_RI (k_X1_thrown l E q1 hq1 (hp.s17 (e_X0_sleep T C σ (xs (i + 1).toNatClampNeg))).1 (hp.s17 (e_X0_sleep T C σ (xs (i + 1).toNatClampNeg))).2.1 (sS σ 17 (e_X0_sleep T C σ (xs (i + 1).toNatClampNeg))) (hp.s17 (e_X0_sleep T C σ (xs (i + 1).toNatClampNeg))).2.2.1) gw_L_99 hd_X1_thrown ⟨rfl, rfl⟩ S0 hK hP1 (rest := []) rfl hl.1 (Nat.le_of_ble_eq_true rfl) ⟨(Nat.le_of_ble_eq_true rfl), (Nat.le_of_ble_eq_true rfl)⟩ hcs dL_law_423 (fun _ => ?_)
    rw [show f_X1_thrown T C (sS σ 17 (e_X0_sleep T C σ (xs (i + 1).toNatClampNeg))) = (e_X0_sleep T C σ (xs (i + 1).toNatClampNeg)) from rfl]
    refine lv_iload hx hb dL_law_426 (lv_at hl 1 rfl) ?_
    refine lv_icmp_eq (tgt := 433) hx hb dL_law_428 (by decide) (fun _ => ?_) (fun h => absurd rfl h)
    refine lv_iload hx hb dL_law_433 (lv_at hl 1 rfl) ?_
    refine lv_if_ne (tgt := 450) hx hb dL_law_435 (by decide) (fun _ => ?_) (fun h => absurd h he)
    refine lv_goto (tgt := 1609) hx hb dL_law_450 rfl ?_
    exact kk T C (sS σ 17 (e_X0_sleep T C σ (xs (i + 1).toNatClampNeg))) H2 locs2 (cells + 1) (slots + 6) ls (hp.s17 _) ⟨hP0, hP1, ⟨_, hO⟩, hOD, hS, by omega, by omega⟩ (lv_sub hl [2, 3, 4, 5, 6, 7] rfl)
set_option maxHeartbeats 1000000 in
theorem c_wake {p : Program} {l : Launch} {e : Env} {s : State} {m : MethodId} {args : Array Value} {below : List Frame} {meth : Method} {c : Code} {H : Heap} {locs : List Loc} {cells slots : Nat} {Q : State → Prop} {ls : Array Slot} {E : Ev} {dD : ClassId} {q0 q1 : Nat → Nat} {o od b L T C n : Nat} {xs : Nat → Int32} {i : Int32} {σ : St} (hst : l.stackTraces = false) (S0 : Fx p m c cL_law 9 s args RL) (K : LK E dD q0 q1 o od b L xs s) (hp : LPs T C n σ) (hh : LH E dD q0 q1 o od s n σ H locs cells slots) (hn : n < 512) (hl : lv_has ls 9 [(0, .ref b), (1, .ref (q0 0)), (2, .ref (q1 0)), (3, .ref o), (4, .ref od), (5, .int i)]) (hi1 : vp_in (i + 1) L) (hi2 : vp_in (i + 2) L) (hi3 : vp_in (i + 3) L)
    (hpl : (e_X0_wake T C σ (xs (i + 1).toNatClampNeg)) = 0 → Inv T C (g_X0_wake T C (sS σ 17 0) (xs (i + 1).toNatClampNeg)) ∧ True → ∃ T1 C1 : Nat, LPs T1 C1 (n + 1) (g_X0_wake T C (sS σ 17 0) (xs (i + 1).toNatClampNeg)))
    (kk : ∀ (T1 C1 : Nat) (σ1 : St) (H1 : Heap) (locs1 : List Loc) (c1 s1 : Nat) (ls : Array Slot), LPs T1 C1 (n + 1) σ1 → LH E dD q0 q1 o od s (n + 1) σ1 H1 locs1 c1 s1 → lv_has ls 9 [(0, .ref b), (1, .ref (q0 0)), (2, .ref (q1 0)), (3, .ref o), (4, .ref od), (5, .int i)] → W p l e room_1 s m args below meth c H1 locs1 c1 s1 Q (F0 m 1609 ls [])) : W p l e room_1 s m args below meth c H locs cells slots Q (F0 m 453 ls []) := by
  obtain ⟨⟨hq0, hq1, hn0, hn1, hno, hnd⟩, ⟨h01, h0o, h1o, h0d, h1d, hod⟩, ⟨hX, hbl, hL⟩, hK, hKD, hXF, hNC⟩ := K
  obtain ⟨hP0, hP1, ⟨w0, hO⟩, hOD, hS, hcl, hsl⟩ := hh
  have hT := hp.1
  have hC := hp.2.1
  have hI := hp.2.2.1
  have hx := S0.1
  have hb := S0.2.1
  have hbA : ¬ An s b := Nat.not_le.mpr hbl
  refine lv_aload_n hx hb dL_law_453 rfl (lv_at hl 1 rfl) ?_
  refine lv_aload_n hx hb dL_law_454 rfl (lv_at hl 0 rfl) ?_
  refine lv_iload hx hb dL_law_455 (lv_at hl 5 rfl) ?_
  refine lv_iconst (v := 1) hx hb dL_law_457 (by decide) ?_
  refine lv_iadd hx hb dL_law_458 ?_
  refine va_sld hx hb hX hbl hbA hS hi1 dL_law_459 ?_
  refine lv_aload_n hx hb dL_law_460 rfl (lv_at hl 3 rfl) ?_
  by_cases he : (e_X0_wake T C σ (xs (i + 1).toNatClampNeg)) = 0
  · have he0 : e_X0_wake T C (sS σ 17 0) (xs (i + 1).toNatClampNeg) = 0 := he
    have hP00 : PP 0 E q0 (sS σ 17 0) H := hP0
    refine ch_N (h_wake l E q0 hq0 hT hC (sS σ 17 0) (inv_sS ⟨by decide, by decide⟩ hI) o h0o (xs (i + 1).toNatClampNeg) he0) (gw_H ml_L_118 st_L_wake ini_L cd_L_wake) hd_L_wake rfl ⟨rfl, rfl⟩ S0 hK hP00 hO hS (fun a h => h.elim (hn0 a) (fun e9 => by rw [e9]; exact hno)) (rest := []) rfl hl.1 (Nat.le_of_ble_eq_true rfl) ⟨(Nat.le_of_ble_eq_true rfl), (Nat.le_of_ble_eq_true rfl)⟩ ⟨by show _ ≤ 1067; omega, by show _ ≤ 8619; omega⟩ dL_law_461 (fun H1 locs1 hP0 hO hS hz hk hex => ?_)
    have hP1 := hP1.kept (H1 := H1) (fun a ha h => hk a ha (fun h9 => h9.elim (fun h8 => h01 a h8 h) (fun e9 => h1o (by rw [← e9]; exact h))))
    have hOD := hOD.kept (H1 := H1) (hk od hOD.lt (fun h9 => h9.elim h0d (fun e9 => hod e9.symm)))
    refine lv_istore hx hb dL_law_464 hl (by decide) rfl (fun ls hl => ?_)
    have hl : lv_has ls 9 [(6, .int 0), (0, .ref b), (1, .ref (q0 0)), (2, .ref (q1 0)), (3, .ref o), (4, .ref od), (5, .int i)] := hl
    refine lv_aload_n hx hb dL_law_466 rfl (lv_at hl 3 rfl) ?_
    refine lv_aload_n hx hb dL_law_467 rfl (lv_at hl 1 rfl) ?_
    refine lv_iload hx hb dL_law_468 (lv_at hl 6 rfl) ?_
    refine lv_iconst (v := 1) hx hb dL_law_470 (by decide) ?_
    refine lv_iadd hx hb dL_law_471 ?_
    refine va_sld hx hb hX hbl hbA hS hi1 dL_law_472 ?_
    have hcs : cells ≤ room_1.cells ∧ slots ≤ room_1.slots := ⟨by show _ ≤ 1067; omega, by show _ ≤ 8619; omega⟩
    refine gl_WJ (A := An s) (k_X1_wake l E q1 hq1 hT hC σ hI (xs (i + 1).toNatClampNeg)) gw_L_120 hd_X1_wake ⟨rfl, rfl⟩ S0 hK hP1 hS (fun a h => hn1 a h) (rest := []) rfl hl.1 (Nat.le_of_ble_eq_true rfl) ⟨(Nat.le_of_ble_eq_true rfl), (Nat.le_of_ble_eq_true rfl)⟩ hcs dL_law_473 (fun H2 locs2 hP1 hS hz2 hk2 hex2 => ?_)
    obtain ⟨hg, hf, h17⟩ := (q_wake hT hC hI (xs (i + 1).toNatClampNeg)).1 he
    rw [hg] at hP1
    rw [hf]
    have hP0 := hP0.kept (H1 := H2) (fun a ha h => hk2 a ha (h01 a h))
    have hO := hO.kept (H1 := H2) (hk2 o hO.lt h1o)
    have hOD := hOD.kept (H1 := H2) (hk2 od hOD.lt h1d)
    refine lv_lstore hx hb dL_law_476 hl (by decide) rfl (fun ls hl => ?_)
    have hl : lv_has ls 9 [(7, .long (f_X0_wake T C (sS σ 17 0) (xs (i + 1).toNatClampNeg))), (6, .int 0), (0, .ref b), (1, .ref (q0 0)), (2, .ref (q1 0)), (3, .ref o), (4, .ref od), (5, .int i)] := hl
    refine lv_aload_n hx hb dL_law_478 rfl (lv_at hl 4 rfl) ?_
    obtain ⟨T1, C1, hp1⟩ := hpl he hex
    refine cl_RI (k_X1_thrown l E q1 hq1 hp1.1 hp1.2.1 (g_X0_wake T C (sS σ 17 0) (xs (i + 1).toNatClampNeg)) hp1.2.2.1) gw_L_99 hd_X1_thrown ⟨rfl, rfl⟩ S0 hK hP1 (rest := []) rfl hl.1 (Nat.le_of_ble_eq_true rfl) ⟨(Nat.le_of_ble_eq_true rfl), (Nat.le_of_ble_eq_true rfl)⟩ hcs dL_law_479 (fun _ => ?_)
    rw [show f_X1_thrown T1 C1 (g_X0_wake T C (sS σ 17 0) (xs (i + 1).toNatClampNeg)) = 0 from h17]
    refine lv_iload hx hb dL_law_482 (lv_at hl 1 rfl) ?_
    refine lv_icmp_eq (tgt := 489) hx hb dL_law_484 (by decide) (fun _ => ?_) (fun h => absurd rfl h)
    refine lv_iload hx hb dL_law_489 (lv_at hl 1 rfl) ?_
    refine lv_if_ne (tgt := 505) hx hb dL_law_491 (by decide) (fun h => absurd rfl h) (fun _ => ?_)
    obtain ⟨fo, hfo, hPO⟩ := hO
    refine lv_aload_n hx hb dL_law_494 rfl (lv_at hl 5 rfl) ?_
    refine lv_iconst (v := 0) hx hb dL_law_495 (by decide) ?_
    refine va_lald hx hb hK hPO 0 1 rfl rfl (by unfold vp_in; decide) dL_law_496 ?_
    rw [show fo (0 : Int32).toNatClampNeg = (f_X0_wake T C (sS σ 17 0) (xs (i + 1).toNatClampNeg)) from hfo]
    refine lv_lload hx hb dL_law_497 (lv_at hl 0 rfl) ?_
    refine W.lcmp hx hb dL_law_499 ?_
    rw [lgc]
    refine lv_if_eq (tgt := 505) hx hb dL_law_500 (by decide) (fun _ => ?_) (fun h => absurd rfl h)
    refine lv_goto (tgt := 1609) hx hb dL_law_505 rfl ?_
    exact kk T1 C1 (g_X0_wake T C (sS σ 17 0) (xs (i + 1).toNatClampNeg)) H2 locs2 cells slots ls hp1 ⟨hP0, hP1, ⟨_, fo, hfo, hPO⟩, hOD, hS, by omega, by omega⟩ (lv_sub hl [2, 3, 4, 5, 6, 7] rfl)
  · refine ch_T (x_wake l hst E q0 hq0 hT hC σ hI o (xs (i + 1).toNatClampNeg) he) (gw_H ml_L_118 st_L_wake ini_L cd_L_wake) hd_L_wake rfl ⟨rfl, rfl⟩ S0 hK hP0 hXF hNC hS (rest := []) rfl hl.1 (Nat.le_of_ble_eq_true rfl) ⟨(Nat.le_of_ble_eq_true rfl), (Nat.le_of_ble_eq_true rfl)⟩ ⟨by show _ ≤ 1067; omega, by show _ ≤ 8619; omega⟩ dL_law_461 (fun H1 locs1 hS hz hk => ?_)
    have hP0 : PP 0 E q0 (sS σ 17 (e_X0_wake T C σ (xs (i + 1).toNatClampNeg))) H1 := hP0.kept (H1 := H1) (fun a ha _ => hk a ha)
    have hP1 := hP1.kept (H1 := H1) (fun a ha _ => hk a ha)
    have hO := hO.kept (H1 := H1) (hk o hO.lt)
    have hOD := hOD.kept (H1 := H1) (hk od hOD.lt)
    refine lv_istore hx hb dL_law_464 hl (by decide) rfl (fun ls hl => ?_)
    have hl : lv_has ls 9 [(6, .int (e_X0_wake T C σ (xs (i + 1).toNatClampNeg))), (0, .ref b), (1, .ref (q0 0)), (2, .ref (q1 0)), (3, .ref o), (4, .ref od), (5, .int i)] := hl
    refine lv_aload_n hx hb dL_law_466 rfl (lv_at hl 3 rfl) ?_
    refine lv_aload_n hx hb dL_law_467 rfl (lv_at hl 1 rfl) ?_
    refine lv_iload hx hb dL_law_468 (lv_at hl 6 rfl) ?_
    refine lv_iconst (v := 1) hx hb dL_law_470 (by decide) ?_
    refine lv_iadd hx hb dL_law_471 ?_
    refine va_sld hx hb hX hbl hbA hS hi1 dL_law_472 ?_
    have hcs : cells + 1 ≤ room_1.cells ∧ slots + 6 ≤ room_1.slots := ⟨by show _ ≤ 1067; omega, by show _ ≤ 8619; omega⟩
    refine gl_WJ (A := An s) (k_X1_wake l E q1 hq1 hT hC σ hI (xs (i + 1).toNatClampNeg)) gw_L_120 hd_X1_wake ⟨rfl, rfl⟩ S0 hK hP1 hS (fun a h => hn1 a h) (rest := []) rfl hl.1 (Nat.le_of_ble_eq_true rfl) ⟨(Nat.le_of_ble_eq_true rfl), (Nat.le_of_ble_eq_true rfl)⟩ hcs dL_law_473 (fun H2 locs2 hP1 hS hz2 hk2 hex2 => ?_)
    have hg := (q_wake hT hC hI (xs (i + 1).toNatClampNeg)).2 he
    rw [hg] at hP1
    have hP0 := hP0.kept (H1 := H2) (fun a ha h => hk2 a ha (h01 a h))
    have hO := hO.kept (H1 := H2) (hk2 o hO.lt h1o)
    have hOD := hOD.kept (H1 := H2) (hk2 od hOD.lt h1d)
    refine lv_lstore hx hb dL_law_476 hl (by decide) rfl (fun ls hl => ?_)
    have hl : lv_has ls 9 [(7, .long (f_X1_wake T C σ (xs (i + 1).toNatClampNeg))), (6, .int (e_X0_wake T C σ (xs (i + 1).toNatClampNeg))), (0, .ref b), (1, .ref (q0 0)), (2, .ref (q1 0)), (3, .ref o), (4, .ref od), (5, .int i)] := hl
    refine lv_aload_n hx hb dL_law_478 rfl (lv_at hl 4 rfl) ?_
    refine cl_RI (k_X1_thrown l E q1 hq1 (hp.s17 (e_X0_wake T C σ (xs (i + 1).toNatClampNeg))).1 (hp.s17 (e_X0_wake T C σ (xs (i + 1).toNatClampNeg))).2.1 (sS σ 17 (e_X0_wake T C σ (xs (i + 1).toNatClampNeg))) (hp.s17 (e_X0_wake T C σ (xs (i + 1).toNatClampNeg))).2.2.1) gw_L_99 hd_X1_thrown ⟨rfl, rfl⟩ S0 hK hP1 (rest := []) rfl hl.1 (Nat.le_of_ble_eq_true rfl) ⟨(Nat.le_of_ble_eq_true rfl), (Nat.le_of_ble_eq_true rfl)⟩ hcs dL_law_479 (fun _ => ?_)
    rw [show f_X1_thrown T C (sS σ 17 (e_X0_wake T C σ (xs (i + 1).toNatClampNeg))) = (e_X0_wake T C σ (xs (i + 1).toNatClampNeg)) from rfl]
    refine lv_iload hx hb dL_law_482 (lv_at hl 1 rfl) ?_
    refine lv_icmp_eq (tgt := 489) hx hb dL_law_484 (by decide) (fun _ => ?_) (fun h => absurd rfl h)
    refine lv_iload hx hb dL_law_489 (lv_at hl 1 rfl) ?_
    refine lv_if_ne (tgt := 505) hx hb dL_law_491 (by decide) (fun _ => ?_) (fun h => absurd h he)
    refine lv_goto (tgt := 1609) hx hb dL_law_505 rfl ?_
    exact kk T C (sS σ 17 (e_X0_wake T C σ (xs (i + 1).toNatClampNeg))) H2 locs2 (cells + 1) (slots + 6) ls (hp.s17 _) ⟨hP0, hP1, ⟨_, hO⟩, hOD, hS, by omega, by omega⟩ (lv_sub hl [2, 3, 4, 5, 6, 7] rfl)
set_option maxHeartbeats 1000000 in
theorem c_exit {p : Program} {l : Launch} {e : Env} {s : State} {m : MethodId} {args : Array Value} {below : List Frame} {meth : Method} {c : Code} {H : Heap} {locs : List Loc} {cells slots : Nat} {Q : State → Prop} {ls : Array Slot} {E : Ev} {dD : ClassId} {q0 q1 : Nat → Nat} {o od b L T C n : Nat} {xs : Nat → Int32} {i : Int32} {σ : St} (hst : l.stackTraces = false) (S0 : Fx p m c cL_law 9 s args RL) (K : LK E dD q0 q1 o od b L xs s) (hp : LPs T C n σ) (hh : LH E dD q0 q1 o od s n σ H locs cells slots) (hn : n < 512) (hl : lv_has ls 9 [(0, .ref b), (1, .ref (q0 0)), (2, .ref (q1 0)), (3, .ref o), (4, .ref od), (5, .int i)]) (hi1 : vp_in (i + 1) L) (hi2 : vp_in (i + 2) L) (hi3 : vp_in (i + 3) L)
    (hpl : (e_X0_exit T C σ (xs (i + 1).toNatClampNeg)) = 0 → Inv T C (g_X0_exit T C (sS σ 17 0) (xs (i + 1).toNatClampNeg)) ∧ True → ∃ T1 C1 : Nat, LPs T1 C1 (n + 1) (g_X0_exit T C (sS σ 17 0) (xs (i + 1).toNatClampNeg)))
    (kk : ∀ (T1 C1 : Nat) (σ1 : St) (H1 : Heap) (locs1 : List Loc) (c1 s1 : Nat) (ls : Array Slot), LPs T1 C1 (n + 1) σ1 → LH E dD q0 q1 o od s (n + 1) σ1 H1 locs1 c1 s1 → lv_has ls 9 [(0, .ref b), (1, .ref (q0 0)), (2, .ref (q1 0)), (3, .ref o), (4, .ref od), (5, .int i)] → W p l e room_1 s m args below meth c H1 locs1 c1 s1 Q (F0 m 1609 ls [])) : W p l e room_1 s m args below meth c H locs cells slots Q (F0 m 508 ls []) := by
  obtain ⟨⟨hq0, hq1, hn0, hn1, hno, hnd⟩, ⟨h01, h0o, h1o, h0d, h1d, hod⟩, ⟨hX, hbl, hL⟩, hK, hKD, hXF, hNC⟩ := K
  obtain ⟨hP0, hP1, ⟨w0, hO⟩, hOD, hS, hcl, hsl⟩ := hh
  have hT := hp.1
  have hC := hp.2.1
  have hI := hp.2.2.1
  have hx := S0.1
  have hb := S0.2.1
  have hbA : ¬ An s b := Nat.not_le.mpr hbl
  refine lv_aload_n hx hb dL_law_508 rfl (lv_at hl 1 rfl) ?_
  refine lv_aload_n hx hb dL_law_509 rfl (lv_at hl 0 rfl) ?_
  refine lv_iload hx hb dL_law_510 (lv_at hl 5 rfl) ?_
  refine lv_iconst (v := 1) hx hb dL_law_512 (by decide) ?_
  refine lv_iadd hx hb dL_law_513 ?_
  refine va_sld hx hb hX hbl hbA hS hi1 dL_law_514 ?_
  refine lv_aload_n hx hb dL_law_515 rfl (lv_at hl 3 rfl) ?_
  by_cases he : (e_X0_exit T C σ (xs (i + 1).toNatClampNeg)) = 0
  · have he0 : e_X0_exit T C (sS σ 17 0) (xs (i + 1).toNatClampNeg) = 0 := he
    have hP00 : PP 0 E q0 (sS σ 17 0) H := hP0
    refine ch_N (h_exit l E q0 hq0 hT hC (sS σ 17 0) (inv_sS ⟨by decide, by decide⟩ hI) o h0o (xs (i + 1).toNatClampNeg) he0) (gw_H ml_L_121 st_L_exit ini_L cd_L_exit) hd_L_exit rfl ⟨rfl, rfl⟩ S0 hK hP00 hO hS (fun a h => h.elim (hn0 a) (fun e9 => by rw [e9]; exact hno)) (rest := []) rfl hl.1 (Nat.le_of_ble_eq_true rfl) ⟨(Nat.le_of_ble_eq_true rfl), (Nat.le_of_ble_eq_true rfl)⟩ ⟨by show _ ≤ 1067; omega, by show _ ≤ 8619; omega⟩ dL_law_516 (fun H1 locs1 hP0 hO hS hz hk hex => ?_)
    have hP1 := hP1.kept (H1 := H1) (fun a ha h => hk a ha (fun h9 => h9.elim (fun h8 => h01 a h8 h) (fun e9 => h1o (by rw [← e9]; exact h))))
    have hOD := hOD.kept (H1 := H1) (hk od hOD.lt (fun h9 => h9.elim h0d (fun e9 => hod e9.symm)))
    refine lv_istore hx hb dL_law_519 hl (by decide) rfl (fun ls hl => ?_)
    have hl : lv_has ls 9 [(6, .int 0), (0, .ref b), (1, .ref (q0 0)), (2, .ref (q1 0)), (3, .ref o), (4, .ref od), (5, .int i)] := hl
    refine lv_aload_n hx hb dL_law_521 rfl (lv_at hl 3 rfl) ?_
    refine lv_aload_n hx hb dL_law_522 rfl (lv_at hl 1 rfl) ?_
    refine lv_iload hx hb dL_law_523 (lv_at hl 6 rfl) ?_
    refine lv_iconst (v := 1) hx hb dL_law_525 (by decide) ?_
    refine lv_iadd hx hb dL_law_526 ?_
    refine va_sld hx hb hX hbl hbA hS hi1 dL_law_527 ?_
    have hcs : cells ≤ room_1.cells ∧ slots ≤ room_1.slots := ⟨by show _ ≤ 1067; omega, by show _ ≤ 8619; omega⟩
    refine gl_WI (A := An s) (k_X1_exit l E q1 hq1 hT hC σ hI (xs (i + 1).toNatClampNeg)) gw_L_123 hd_X1_exit ⟨rfl, rfl⟩ S0 hK hP1 hS (fun a h => hn1 a h) (rest := []) rfl hl.1 (Nat.le_of_ble_eq_true rfl) ⟨(Nat.le_of_ble_eq_true rfl), (Nat.le_of_ble_eq_true rfl)⟩ hcs dL_law_528 (fun H2 locs2 hP1 hS hz2 hk2 hex2 => ?_)
    obtain ⟨hg, hf, h17⟩ := (q_exit hT hC hI (xs (i + 1).toNatClampNeg)).1 he
    rw [hg] at hP1
    rw [hf]
    have hP0 := hP0.kept (H1 := H2) (fun a ha h => hk2 a ha (h01 a h))
    have hO := hO.kept (H1 := H2) (hk2 o hO.lt h1o)
    have hOD := hOD.kept (H1 := H2) (hk2 od hOD.lt h1d)
    refine lv_istore hx hb dL_law_531 hl (by decide) rfl (fun ls hl => ?_)
    have hl : lv_has ls 9 [(7, .int (f_X0_exit T C (sS σ 17 0) (xs (i + 1).toNatClampNeg))), (6, .int 0), (0, .ref b), (1, .ref (q0 0)), (2, .ref (q1 0)), (3, .ref o), (4, .ref od), (5, .int i)] := hl
    refine lv_aload_n hx hb dL_law_533 rfl (lv_at hl 4 rfl) ?_
    obtain ⟨T1, C1, hp1⟩ := hpl he hex
    refine cl_RI (k_X1_thrown l E q1 hq1 hp1.1 hp1.2.1 (g_X0_exit T C (sS σ 17 0) (xs (i + 1).toNatClampNeg)) hp1.2.2.1) gw_L_99 hd_X1_thrown ⟨rfl, rfl⟩ S0 hK hP1 (rest := []) rfl hl.1 (Nat.le_of_ble_eq_true rfl) ⟨(Nat.le_of_ble_eq_true rfl), (Nat.le_of_ble_eq_true rfl)⟩ hcs dL_law_534 (fun _ => ?_)
    rw [show f_X1_thrown T1 C1 (g_X0_exit T C (sS σ 17 0) (xs (i + 1).toNatClampNeg)) = 0 from h17]
    refine lv_iload hx hb dL_law_537 (lv_at hl 1 rfl) ?_
    refine lv_icmp_eq (tgt := 544) hx hb dL_law_539 (by decide) (fun _ => ?_) (fun h => absurd rfl h)
    refine lv_iload hx hb dL_law_544 (lv_at hl 1 rfl) ?_
    refine lv_if_ne (tgt := 561) hx hb dL_law_546 (by decide) (fun h => absurd rfl h) (fun _ => ?_)
    obtain ⟨fo, hfo, hPO⟩ := hO
    refine lv_aload_n hx hb dL_law_549 rfl (lv_at hl 5 rfl) ?_
    refine lv_iconst (v := 0) hx hb dL_law_550 (by decide) ?_
    refine va_lald hx hb hK hPO 0 1 rfl rfl (by unfold vp_in; decide) dL_law_551 ?_
    rw [show fo (0 : Int32).toNatClampNeg = (Int32.toInt64 (f_X0_exit T C (sS σ 17 0) (xs (i + 1).toNatClampNeg))) from hfo]
    refine lv_iload hx hb dL_law_552 (lv_at hl 0 rfl) ?_
    refine lv_i2l (v := (Int32.toInt64 (f_X0_exit T C (sS σ 17 0) (xs (i + 1).toNatClampNeg)))) hx hb dL_law_554 rfl ?_
    refine W.lcmp hx hb dL_law_555 ?_
    rw [lgc]
    refine lv_if_eq (tgt := 561) hx hb dL_law_556 (by decide) (fun _ => ?_) (fun h => absurd rfl h)
    refine lv_goto (tgt := 1609) hx hb dL_law_561 rfl ?_
    exact kk T1 C1 (g_X0_exit T C (sS σ 17 0) (xs (i + 1).toNatClampNeg)) H2 locs2 cells slots ls hp1 ⟨hP0, hP1, ⟨_, fo, hfo, hPO⟩, hOD, hS, by omega, by omega⟩ (lv_sub hl [2, 3, 4, 5, 6, 7] rfl)
  · refine ch_T (x_exit l hst E q0 hq0 hT hC σ hI o (xs (i + 1).toNatClampNeg) he) (gw_H ml_L_121 st_L_exit ini_L cd_L_exit) hd_L_exit rfl ⟨rfl, rfl⟩ S0 hK hP0 hXF hNC hS (rest := []) rfl hl.1 (Nat.le_of_ble_eq_true rfl) ⟨(Nat.le_of_ble_eq_true rfl), (Nat.le_of_ble_eq_true rfl)⟩ ⟨by show _ ≤ 1067; omega, by show _ ≤ 8619; omega⟩ dL_law_516 (fun H1 locs1 hS hz hk => ?_)
    have hP0 : PP 0 E q0 (sS σ 17 (e_X0_exit T C σ (xs (i + 1).toNatClampNeg))) H1 := hP0.kept (H1 := H1) (fun a ha _ => hk a ha)
    have hP1 := hP1.kept (H1 := H1) (fun a ha _ => hk a ha)
    have hO := hO.kept (H1 := H1) (hk o hO.lt)
    have hOD := hOD.kept (H1 := H1) (hk od hOD.lt)
    refine lv_istore hx hb dL_law_519 hl (by decide) rfl (fun ls hl => ?_)
    have hl : lv_has ls 9 [(6, .int (e_X0_exit T C σ (xs (i + 1).toNatClampNeg))), (0, .ref b), (1, .ref (q0 0)), (2, .ref (q1 0)), (3, .ref o), (4, .ref od), (5, .int i)] := hl
    refine lv_aload_n hx hb dL_law_521 rfl (lv_at hl 3 rfl) ?_
    refine lv_aload_n hx hb dL_law_522 rfl (lv_at hl 1 rfl) ?_
    refine lv_iload hx hb dL_law_523 (lv_at hl 6 rfl) ?_
    refine lv_iconst (v := 1) hx hb dL_law_525 (by decide) ?_
    refine lv_iadd hx hb dL_law_526 ?_
    refine va_sld hx hb hX hbl hbA hS hi1 dL_law_527 ?_
    have hcs : cells + 1 ≤ room_1.cells ∧ slots + 6 ≤ room_1.slots := ⟨by show _ ≤ 1067; omega, by show _ ≤ 8619; omega⟩
    refine gl_WI (A := An s) (k_X1_exit l E q1 hq1 hT hC σ hI (xs (i + 1).toNatClampNeg)) gw_L_123 hd_X1_exit ⟨rfl, rfl⟩ S0 hK hP1 hS (fun a h => hn1 a h) (rest := []) rfl hl.1 (Nat.le_of_ble_eq_true rfl) ⟨(Nat.le_of_ble_eq_true rfl), (Nat.le_of_ble_eq_true rfl)⟩ hcs dL_law_528 (fun H2 locs2 hP1 hS hz2 hk2 hex2 => ?_)
    have hg := (q_exit hT hC hI (xs (i + 1).toNatClampNeg)).2 he
    rw [hg] at hP1
    have hP0 := hP0.kept (H1 := H2) (fun a ha h => hk2 a ha (h01 a h))
    have hO := hO.kept (H1 := H2) (hk2 o hO.lt h1o)
    have hOD := hOD.kept (H1 := H2) (hk2 od hOD.lt h1d)
    refine lv_istore hx hb dL_law_531 hl (by decide) rfl (fun ls hl => ?_)
    have hl : lv_has ls 9 [(7, .int (f_X1_exit T C σ (xs (i + 1).toNatClampNeg))), (6, .int (e_X0_exit T C σ (xs (i + 1).toNatClampNeg))), (0, .ref b), (1, .ref (q0 0)), (2, .ref (q1 0)), (3, .ref o), (4, .ref od), (5, .int i)] := hl
    refine lv_aload_n hx hb dL_law_533 rfl (lv_at hl 4 rfl) ?_
    refine cl_RI (k_X1_thrown l E q1 hq1 (hp.s17 (e_X0_exit T C σ (xs (i + 1).toNatClampNeg))).1 (hp.s17 (e_X0_exit T C σ (xs (i + 1).toNatClampNeg))).2.1 (sS σ 17 (e_X0_exit T C σ (xs (i + 1).toNatClampNeg))) (hp.s17 (e_X0_exit T C σ (xs (i + 1).toNatClampNeg))).2.2.1) gw_L_99 hd_X1_thrown ⟨rfl, rfl⟩ S0 hK hP1 (rest := []) rfl hl.1 (Nat.le_of_ble_eq_true rfl) ⟨(Nat.le_of_ble_eq_true rfl), (Nat.le_of_ble_eq_true rfl)⟩ hcs dL_law_534 (fun _ => ?_)
    rw [show f_X1_thrown T C (sS σ 17 (e_X0_exit T C σ (xs (i + 1).toNatClampNeg))) = (e_X0_exit T C σ (xs (i + 1).toNatClampNeg)) from rfl]
    refine lv_iload hx hb dL_law_537 (lv_at hl 1 rfl) ?_
    refine lv_icmp_eq (tgt := 544) hx hb dL_law_539 (by decide) (fun _ => ?_) (fun h => absurd rfl h)
    refine lv_iload hx hb dL_law_544 (lv_at hl 1 rfl) ?_
    refine lv_if_ne (tgt := 561) hx hb dL_law_546 (by decide) (fun _ => ?_) (fun h => absurd h he)
    refine lv_goto (tgt := 1609) hx hb dL_law_561 rfl ?_
    exact kk T C (sS σ 17 (e_X0_exit T C σ (xs (i + 1).toNatClampNeg))) H2 locs2 (cells + 1) (slots + 6) ls (hp.s17 _) ⟨hP0, hP1, ⟨_, hO⟩, hOD, hS, by omega, by omega⟩ (lv_sub hl [2, 3, 4, 5, 6, 7] rfl)
set_option maxHeartbeats 1000000 in
theorem c_setWeight {p : Program} {l : Launch} {e : Env} {s : State} {m : MethodId} {args : Array Value} {below : List Frame} {meth : Method} {c : Code} {H : Heap} {locs : List Loc} {cells slots : Nat} {Q : State → Prop} {ls : Array Slot} {E : Ev} {dD : ClassId} {q0 q1 : Nat → Nat} {o od b L T C n : Nat} {xs : Nat → Int32} {i : Int32} {σ : St} (hst : l.stackTraces = false) (S0 : Fx p m c cL_law 9 s args RL) (K : LK E dD q0 q1 o od b L xs s) (hp : LPs T C n σ) (hh : LH E dD q0 q1 o od s n σ H locs cells slots) (hn : n < 512) (hl : lv_has ls 9 [(0, .ref b), (1, .ref (q0 0)), (2, .ref (q1 0)), (3, .ref o), (4, .ref od), (5, .int i)]) (hi1 : vp_in (i + 1) L) (hi2 : vp_in (i + 2) L) (hi3 : vp_in (i + 3) L)
    (hpl : (e_X0_setWeight T C σ (xs (i + 1).toNatClampNeg) (xs (i + 2).toNatClampNeg)) = 0 → Inv T C (g_X0_setWeight T C (sS σ 17 0) (xs (i + 1).toNatClampNeg) (xs (i + 2).toNatClampNeg)) ∧ True → ∃ T1 C1 : Nat, LPs T1 C1 (n + 1) (g_X0_setWeight T C (sS σ 17 0) (xs (i + 1).toNatClampNeg) (xs (i + 2).toNatClampNeg)))
    (kk : ∀ (T1 C1 : Nat) (σ1 : St) (H1 : Heap) (locs1 : List Loc) (c1 s1 : Nat) (ls : Array Slot), LPs T1 C1 (n + 1) σ1 → LH E dD q0 q1 o od s (n + 1) σ1 H1 locs1 c1 s1 → lv_has ls 9 [(0, .ref b), (1, .ref (q0 0)), (2, .ref (q1 0)), (3, .ref o), (4, .ref od), (5, .int i)] → W p l e room_1 s m args below meth c H1 locs1 c1 s1 Q (F0 m 1609 ls [])) : W p l e room_1 s m args below meth c H locs cells slots Q (F0 m 564 ls []) := by
  obtain ⟨⟨hq0, hq1, hn0, hn1, hno, hnd⟩, ⟨h01, h0o, h1o, h0d, h1d, hod⟩, ⟨hX, hbl, hL⟩, hK, hKD, hXF, hNC⟩ := K
  obtain ⟨hP0, hP1, ⟨w0, hO⟩, hOD, hS, hcl, hsl⟩ := hh
  have hT := hp.1
  have hC := hp.2.1
  have hI := hp.2.2.1
  have hx := S0.1
  have hb := S0.2.1
  have hbA : ¬ An s b := Nat.not_le.mpr hbl
  refine lv_aload_n hx hb dL_law_564 rfl (lv_at hl 1 rfl) ?_
  refine lv_aload_n hx hb dL_law_565 rfl (lv_at hl 0 rfl) ?_
  refine lv_iload hx hb dL_law_566 (lv_at hl 5 rfl) ?_
  refine lv_iconst (v := 1) hx hb dL_law_568 (by decide) ?_
  refine lv_iadd hx hb dL_law_569 ?_
  refine va_sld hx hb hX hbl hbA hS hi1 dL_law_570 ?_
  refine lv_aload_n hx hb dL_law_571 rfl (lv_at hl 0 rfl) ?_
  refine lv_iload hx hb dL_law_572 (lv_at hl 5 rfl) ?_
  refine lv_iconst (v := 2) hx hb dL_law_574 (by decide) ?_
  refine lv_iadd hx hb dL_law_575 ?_
  refine va_sld hx hb hX hbl hbA hS hi2 dL_law_576 ?_
  refine lv_aload_n hx hb dL_law_577 rfl (lv_at hl 3 rfl) ?_
  by_cases he : (e_X0_setWeight T C σ (xs (i + 1).toNatClampNeg) (xs (i + 2).toNatClampNeg)) = 0
  · have he0 : e_X0_setWeight T C (sS σ 17 0) (xs (i + 1).toNatClampNeg) (xs (i + 2).toNatClampNeg) = 0 := he
    have hP00 : PP 0 E q0 (sS σ 17 0) H := hP0
    refine ch_N (h_setWeight l E q0 hq0 hT hC (sS σ 17 0) (inv_sS ⟨by decide, by decide⟩ hI) o h0o (xs (i + 1).toNatClampNeg) (xs (i + 2).toNatClampNeg) he0) (gw_H ml_L_124 st_L_setWeight ini_L cd_L_setWeight) hd_L_setWeight rfl ⟨rfl, rfl⟩ S0 hK hP00 hO hS (fun a h => h.elim (hn0 a) (fun e9 => by rw [e9]; exact hno)) (rest := []) rfl hl.1 (Nat.le_of_ble_eq_true rfl) ⟨(Nat.le_of_ble_eq_true rfl), (Nat.le_of_ble_eq_true rfl)⟩ ⟨by show _ ≤ 1067; omega, by show _ ≤ 8619; omega⟩ dL_law_578 (fun H1 locs1 hP0 hO hS hz hk hex => ?_)
    have hP1 := hP1.kept (H1 := H1) (fun a ha h => hk a ha (fun h9 => h9.elim (fun h8 => h01 a h8 h) (fun e9 => h1o (by rw [← e9]; exact h))))
    have hOD := hOD.kept (H1 := H1) (hk od hOD.lt (fun h9 => h9.elim h0d (fun e9 => hod e9.symm)))
    refine lv_istore hx hb dL_law_581 hl (by decide) rfl (fun ls hl => ?_)
    have hl : lv_has ls 9 [(6, .int 0), (0, .ref b), (1, .ref (q0 0)), (2, .ref (q1 0)), (3, .ref o), (4, .ref od), (5, .int i)] := hl
    refine lv_aload_n hx hb dL_law_583 rfl (lv_at hl 3 rfl) ?_
    refine lv_aload_n hx hb dL_law_584 rfl (lv_at hl 1 rfl) ?_
    refine lv_iload hx hb dL_law_585 (lv_at hl 6 rfl) ?_
    refine lv_iconst (v := 1) hx hb dL_law_587 (by decide) ?_
    refine lv_iadd hx hb dL_law_588 ?_
    refine va_sld hx hb hX hbl hbA hS hi1 dL_law_589 ?_
    refine lv_aload_n hx hb dL_law_590 rfl (lv_at hl 1 rfl) ?_
    refine lv_iload hx hb dL_law_591 (lv_at hl 6 rfl) ?_
    refine lv_iconst (v := 2) hx hb dL_law_593 (by decide) ?_
    refine lv_iadd hx hb dL_law_594 ?_
    refine va_sld hx hb hX hbl hbA hS hi2 dL_law_595 ?_
    have hcs : cells ≤ room_1.cells ∧ slots ≤ room_1.slots := ⟨by show _ ≤ 1067; omega, by show _ ≤ 8619; omega⟩
    refine gl_WI (A := An s) (k_X1_setWeight l E q1 hq1 hT hC σ hI (xs (i + 1).toNatClampNeg) (xs (i + 2).toNatClampNeg)) gw_L_127 hd_X1_setWeight ⟨rfl, rfl⟩ S0 hK hP1 hS (fun a h => hn1 a h) (rest := []) rfl hl.1 (Nat.le_of_ble_eq_true rfl) ⟨(Nat.le_of_ble_eq_true rfl), (Nat.le_of_ble_eq_true rfl)⟩ hcs dL_law_596 (fun H2 locs2 hP1 hS hz2 hk2 hex2 => ?_)
    obtain ⟨hg, hf, h17⟩ := (q_setWeight hT hC hI (xs (i + 1).toNatClampNeg) (xs (i + 2).toNatClampNeg)).1 he
    rw [hg] at hP1
    rw [hf]
    have hP0 := hP0.kept (H1 := H2) (fun a ha h => hk2 a ha (h01 a h))
    have hO := hO.kept (H1 := H2) (hk2 o hO.lt h1o)
    have hOD := hOD.kept (H1 := H2) (hk2 od hOD.lt h1d)
    refine lv_istore hx hb dL_law_599 hl (by decide) rfl (fun ls hl => ?_)
    have hl : lv_has ls 9 [(7, .int (f_X0_setWeight T C (sS σ 17 0) (xs (i + 1).toNatClampNeg) (xs (i + 2).toNatClampNeg))), (6, .int 0), (0, .ref b), (1, .ref (q0 0)), (2, .ref (q1 0)), (3, .ref o), (4, .ref od), (5, .int i)] := hl
    refine lv_aload_n hx hb dL_law_601 rfl (lv_at hl 4 rfl) ?_
    obtain ⟨T1, C1, hp1⟩ := hpl he hex
    refine cl_RI (k_X1_thrown l E q1 hq1 hp1.1 hp1.2.1 (g_X0_setWeight T C (sS σ 17 0) (xs (i + 1).toNatClampNeg) (xs (i + 2).toNatClampNeg)) hp1.2.2.1) gw_L_99 hd_X1_thrown ⟨rfl, rfl⟩ S0 hK hP1 (rest := []) rfl hl.1 (Nat.le_of_ble_eq_true rfl) ⟨(Nat.le_of_ble_eq_true rfl), (Nat.le_of_ble_eq_true rfl)⟩ hcs dL_law_602 (fun _ => ?_)
    rw [show f_X1_thrown T1 C1 (g_X0_setWeight T C (sS σ 17 0) (xs (i + 1).toNatClampNeg) (xs (i + 2).toNatClampNeg)) = 0 from h17]
    refine lv_iload hx hb dL_law_605 (lv_at hl 1 rfl) ?_
    refine lv_icmp_eq (tgt := 612) hx hb dL_law_607 (by decide) (fun _ => ?_) (fun h => absurd rfl h)
    refine lv_iload hx hb dL_law_612 (lv_at hl 1 rfl) ?_
    refine lv_if_ne (tgt := 629) hx hb dL_law_614 (by decide) (fun h => absurd rfl h) (fun _ => ?_)
    obtain ⟨fo, hfo, hPO⟩ := hO
    refine lv_aload_n hx hb dL_law_617 rfl (lv_at hl 5 rfl) ?_
    refine lv_iconst (v := 0) hx hb dL_law_618 (by decide) ?_
    refine va_lald hx hb hK hPO 0 1 rfl rfl (by unfold vp_in; decide) dL_law_619 ?_
    rw [show fo (0 : Int32).toNatClampNeg = (Int32.toInt64 (f_X0_setWeight T C (sS σ 17 0) (xs (i + 1).toNatClampNeg) (xs (i + 2).toNatClampNeg))) from hfo]
    refine lv_iload hx hb dL_law_620 (lv_at hl 0 rfl) ?_
    refine lv_i2l (v := (Int32.toInt64 (f_X0_setWeight T C (sS σ 17 0) (xs (i + 1).toNatClampNeg) (xs (i + 2).toNatClampNeg)))) hx hb dL_law_622 rfl ?_
    refine W.lcmp hx hb dL_law_623 ?_
    rw [lgc]
    refine lv_if_eq (tgt := 629) hx hb dL_law_624 (by decide) (fun _ => ?_) (fun h => absurd rfl h)
    refine lv_goto (tgt := 1609) hx hb dL_law_629 rfl ?_
    exact kk T1 C1 (g_X0_setWeight T C (sS σ 17 0) (xs (i + 1).toNatClampNeg) (xs (i + 2).toNatClampNeg)) H2 locs2 cells slots ls hp1 ⟨hP0, hP1, ⟨_, fo, hfo, hPO⟩, hOD, hS, by omega, by omega⟩ (lv_sub hl [2, 3, 4, 5, 6, 7] rfl)
  · refine ch_T (x_setWeight l hst E q0 hq0 hT hC σ hI o (xs (i + 1).toNatClampNeg) (xs (i + 2).toNatClampNeg) he) (gw_H ml_L_124 st_L_setWeight ini_L cd_L_setWeight) hd_L_setWeight rfl ⟨rfl, rfl⟩ S0 hK hP0 hXF hNC hS (rest := []) rfl hl.1 (Nat.le_of_ble_eq_true rfl) ⟨(Nat.le_of_ble_eq_true rfl), (Nat.le_of_ble_eq_true rfl)⟩ ⟨by show _ ≤ 1067; omega, by show _ ≤ 8619; omega⟩ dL_law_578 (fun H1 locs1 hS hz hk => ?_)
    have hP0 : PP 0 E q0 (sS σ 17 (e_X0_setWeight T C σ (xs (i + 1).toNatClampNeg) (xs (i + 2).toNatClampNeg))) H1 := hP0.kept (H1 := H1) (fun a ha _ => hk a ha)
    have hP1 := hP1.kept (H1 := H1) (fun a ha _ => hk a ha)
    have hO := hO.kept (H1 := H1) (hk o hO.lt)
    have hOD := hOD.kept (H1 := H1) (hk od hOD.lt)
    refine lv_istore hx hb dL_law_581 hl (by decide) rfl (fun ls hl => ?_)
    have hl : lv_has ls 9 [(6, .int (e_X0_setWeight T C σ (xs (i + 1).toNatClampNeg) (xs (i + 2).toNatClampNeg))), (0, .ref b), (1, .ref (q0 0)), (2, .ref (q1 0)), (3, .ref o), (4, .ref od), (5, .int i)] := hl
    refine lv_aload_n hx hb dL_law_583 rfl (lv_at hl 3 rfl) ?_
    refine lv_aload_n hx hb dL_law_584 rfl (lv_at hl 1 rfl) ?_
    refine lv_iload hx hb dL_law_585 (lv_at hl 6 rfl) ?_
    refine lv_iconst (v := 1) hx hb dL_law_587 (by decide) ?_
    refine lv_iadd hx hb dL_law_588 ?_
    refine va_sld hx hb hX hbl hbA hS hi1 dL_law_589 ?_
    refine lv_aload_n hx hb dL_law_590 rfl (lv_at hl 1 rfl) ?_
    refine lv_iload hx hb dL_law_591 (lv_at hl 6 rfl) ?_
    refine lv_iconst (v := 2) hx hb dL_law_593 (by decide) ?_
    refine lv_iadd hx hb dL_law_594 ?_
    refine va_sld hx hb hX hbl hbA hS hi2 dL_law_595 ?_
    have hcs : cells + 1 ≤ room_1.cells ∧ slots + 6 ≤ room_1.slots := ⟨by show _ ≤ 1067; omega, by show _ ≤ 8619; omega⟩
    refine gl_WI (A := An s) (k_X1_setWeight l E q1 hq1 hT hC σ hI (xs (i + 1).toNatClampNeg) (xs (i + 2).toNatClampNeg)) gw_L_127 hd_X1_setWeight ⟨rfl, rfl⟩ S0 hK hP1 hS (fun a h => hn1 a h) (rest := []) rfl hl.1 (Nat.le_of_ble_eq_true rfl) ⟨(Nat.le_of_ble_eq_true rfl), (Nat.le_of_ble_eq_true rfl)⟩ hcs dL_law_596 (fun H2 locs2 hP1 hS hz2 hk2 hex2 => ?_)
    have hg := (q_setWeight hT hC hI (xs (i + 1).toNatClampNeg) (xs (i + 2).toNatClampNeg)).2 he
    rw [hg] at hP1
    have hP0 := hP0.kept (H1 := H2) (fun a ha h => hk2 a ha (h01 a h))
    have hO := hO.kept (H1 := H2) (hk2 o hO.lt h1o)
    have hOD := hOD.kept (H1 := H2) (hk2 od hOD.lt h1d)
    refine lv_istore hx hb dL_law_599 hl (by decide) rfl (fun ls hl => ?_)
    have hl : lv_has ls 9 [(7, .int (f_X1_setWeight T C σ (xs (i + 1).toNatClampNeg) (xs (i + 2).toNatClampNeg))), (6, .int (e_X0_setWeight T C σ (xs (i + 1).toNatClampNeg) (xs (i + 2).toNatClampNeg))), (0, .ref b), (1, .ref (q0 0)), (2, .ref (q1 0)), (3, .ref o), (4, .ref od), (5, .int i)] := hl
    refine lv_aload_n hx hb dL_law_601 rfl (lv_at hl 4 rfl) ?_
    refine cl_RI (k_X1_thrown l E q1 hq1 (hp.s17 (e_X0_setWeight T C σ (xs (i + 1).toNatClampNeg) (xs (i + 2).toNatClampNeg))).1 (hp.s17 (e_X0_setWeight T C σ (xs (i + 1).toNatClampNeg) (xs (i + 2).toNatClampNeg))).2.1 (sS σ 17 (e_X0_setWeight T C σ (xs (i + 1).toNatClampNeg) (xs (i + 2).toNatClampNeg))) (hp.s17 (e_X0_setWeight T C σ (xs (i + 1).toNatClampNeg) (xs (i + 2).toNatClampNeg))).2.2.1) gw_L_99 hd_X1_thrown ⟨rfl, rfl⟩ S0 hK hP1 (rest := []) rfl hl.1 (Nat.le_of_ble_eq_true rfl) ⟨(Nat.le_of_ble_eq_true rfl), (Nat.le_of_ble_eq_true rfl)⟩ hcs dL_law_602 (fun _ => ?_)
    rw [show f_X1_thrown T C (sS σ 17 (e_X0_setWeight T C σ (xs (i + 1).toNatClampNeg) (xs (i + 2).toNatClampNeg))) = (e_X0_setWeight T C σ (xs (i + 1).toNatClampNeg) (xs (i + 2).toNatClampNeg)) from rfl]
    refine lv_iload hx hb dL_law_605 (lv_at hl 1 rfl) ?_
    refine lv_icmp_eq (tgt := 612) hx hb dL_law_607 (by decide) (fun _ => ?_) (fun h => absurd rfl h)
    refine lv_iload hx hb dL_law_612 (lv_at hl 1 rfl) ?_
    refine lv_if_ne (tgt := 629) hx hb dL_law_614 (by decide) (fun _ => ?_) (fun h => absurd h he)
    refine lv_goto (tgt := 1609) hx hb dL_law_629 rfl ?_
    exact kk T C (sS σ 17 (e_X0_setWeight T C σ (xs (i + 1).toNatClampNeg) (xs (i + 2).toNatClampNeg))) H2 locs2 (cells + 1) (slots + 6) ls (hp.s17 _) ⟨hP0, hP1, ⟨_, hO⟩, hOD, hS, by omega, by omega⟩ (lv_sub hl [2, 3, 4, 5, 6, 7] rfl)
set_option maxHeartbeats 1000000 in
theorem c_setCookie {p : Program} {l : Launch} {e : Env} {s : State} {m : MethodId} {args : Array Value} {below : List Frame} {meth : Method} {c : Code} {H : Heap} {locs : List Loc} {cells slots : Nat} {Q : State → Prop} {ls : Array Slot} {E : Ev} {dD : ClassId} {q0 q1 : Nat → Nat} {o od b L T C n : Nat} {xs : Nat → Int32} {i : Int32} {σ : St} (hst : l.stackTraces = false) (S0 : Fx p m c cL_law 9 s args RL) (K : LK E dD q0 q1 o od b L xs s) (hp : LPs T C n σ) (hh : LH E dD q0 q1 o od s n σ H locs cells slots) (hn : n < 512) (hl : lv_has ls 9 [(0, .ref b), (1, .ref (q0 0)), (2, .ref (q1 0)), (3, .ref o), (4, .ref od), (5, .int i)]) (hi1 : vp_in (i + 1) L) (hi2 : vp_in (i + 2) L) (hi3 : vp_in (i + 3) L)
    (hpl : (e_X0_setCookie T C σ (xs (i + 1).toNatClampNeg) (xs (i + 2).toNatClampNeg)) = 0 → Inv T C (g_X0_setCookie T C (sS σ 17 0) (xs (i + 1).toNatClampNeg) (xs (i + 2).toNatClampNeg)) ∧ True → ∃ T1 C1 : Nat, LPs T1 C1 (n + 1) (g_X0_setCookie T C (sS σ 17 0) (xs (i + 1).toNatClampNeg) (xs (i + 2).toNatClampNeg)))
    (kk : ∀ (T1 C1 : Nat) (σ1 : St) (H1 : Heap) (locs1 : List Loc) (c1 s1 : Nat) (ls : Array Slot), LPs T1 C1 (n + 1) σ1 → LH E dD q0 q1 o od s (n + 1) σ1 H1 locs1 c1 s1 → lv_has ls 9 [(0, .ref b), (1, .ref (q0 0)), (2, .ref (q1 0)), (3, .ref o), (4, .ref od), (5, .int i)] → W p l e room_1 s m args below meth c H1 locs1 c1 s1 Q (F0 m 1609 ls [])) : W p l e room_1 s m args below meth c H locs cells slots Q (F0 m 632 ls []) := by
  obtain ⟨⟨hq0, hq1, hn0, hn1, hno, hnd⟩, ⟨h01, h0o, h1o, h0d, h1d, hod⟩, ⟨hX, hbl, hL⟩, hK, hKD, hXF, hNC⟩ := K
  obtain ⟨hP0, hP1, ⟨w0, hO⟩, hOD, hS, hcl, hsl⟩ := hh
  have hT := hp.1
  have hC := hp.2.1
  have hI := hp.2.2.1
  have hx := S0.1
  have hb := S0.2.1
  have hbA : ¬ An s b := Nat.not_le.mpr hbl
  refine lv_aload_n hx hb dL_law_632 rfl (lv_at hl 1 rfl) ?_
  refine lv_aload_n hx hb dL_law_633 rfl (lv_at hl 0 rfl) ?_
  refine lv_iload hx hb dL_law_634 (lv_at hl 5 rfl) ?_
  refine lv_iconst (v := 1) hx hb dL_law_636 (by decide) ?_
  refine lv_iadd hx hb dL_law_637 ?_
  refine va_sld hx hb hX hbl hbA hS hi1 dL_law_638 ?_
  refine lv_aload_n hx hb dL_law_639 rfl (lv_at hl 0 rfl) ?_
  refine lv_iload hx hb dL_law_640 (lv_at hl 5 rfl) ?_
  refine lv_iconst (v := 2) hx hb dL_law_642 (by decide) ?_
  refine lv_iadd hx hb dL_law_643 ?_
  refine va_sld hx hb hX hbl hbA hS hi2 dL_law_644 ?_
  refine lv_aload_n hx hb dL_law_645 rfl (lv_at hl 3 rfl) ?_
  by_cases he : (e_X0_setCookie T C σ (xs (i + 1).toNatClampNeg) (xs (i + 2).toNatClampNeg)) = 0
  · have he0 : e_X0_setCookie T C (sS σ 17 0) (xs (i + 1).toNatClampNeg) (xs (i + 2).toNatClampNeg) = 0 := he
    have hP00 : PP 0 E q0 (sS σ 17 0) H := hP0
    refine ch_N (h_setCookie l E q0 hq0 hT hC (sS σ 17 0) (inv_sS ⟨by decide, by decide⟩ hI) o h0o (xs (i + 1).toNatClampNeg) (xs (i + 2).toNatClampNeg) he0) (gw_H ml_L_128 st_L_setCookie ini_L cd_L_setCookie) hd_L_setCookie rfl ⟨rfl, rfl⟩ S0 hK hP00 hO hS (fun a h => h.elim (hn0 a) (fun e9 => by rw [e9]; exact hno)) (rest := []) rfl hl.1 (Nat.le_of_ble_eq_true rfl) ⟨(Nat.le_of_ble_eq_true rfl), (Nat.le_of_ble_eq_true rfl)⟩ ⟨by show _ ≤ 1067; omega, by show _ ≤ 8619; omega⟩ dL_law_646 (fun H1 locs1 hP0 hO hS hz hk hex => ?_)
    have hP1 := hP1.kept (H1 := H1) (fun a ha h => hk a ha (fun h9 => h9.elim (fun h8 => h01 a h8 h) (fun e9 => h1o (by rw [← e9]; exact h))))
    have hOD := hOD.kept (H1 := H1) (hk od hOD.lt (fun h9 => h9.elim h0d (fun e9 => hod e9.symm)))
    refine lv_istore hx hb dL_law_649 hl (by decide) rfl (fun ls hl => ?_)
    have hl : lv_has ls 9 [(6, .int 0), (0, .ref b), (1, .ref (q0 0)), (2, .ref (q1 0)), (3, .ref o), (4, .ref od), (5, .int i)] := hl
    refine lv_aload_n hx hb dL_law_651 rfl (lv_at hl 3 rfl) ?_
    refine lv_aload_n hx hb dL_law_652 rfl (lv_at hl 1 rfl) ?_
    refine lv_iload hx hb dL_law_653 (lv_at hl 6 rfl) ?_
    refine lv_iconst (v := 1) hx hb dL_law_655 (by decide) ?_
    refine lv_iadd hx hb dL_law_656 ?_
    refine va_sld hx hb hX hbl hbA hS hi1 dL_law_657 ?_
    refine lv_aload_n hx hb dL_law_658 rfl (lv_at hl 1 rfl) ?_
    refine lv_iload hx hb dL_law_659 (lv_at hl 6 rfl) ?_
    refine lv_iconst (v := 2) hx hb dL_law_661 (by decide) ?_
    refine lv_iadd hx hb dL_law_662 ?_
    refine va_sld hx hb hX hbl hbA hS hi2 dL_law_663 ?_
    have hcs : cells ≤ room_1.cells ∧ slots ≤ room_1.slots := ⟨by show _ ≤ 1067; omega, by show _ ≤ 8619; omega⟩
    refine gl_WI (A := An s) (k_X1_setCookie l E q1 hq1 hT hC σ hI (xs (i + 1).toNatClampNeg) (xs (i + 2).toNatClampNeg)) gw_L_130 hd_X1_setCookie ⟨rfl, rfl⟩ S0 hK hP1 hS (fun a h => hn1 a h) (rest := []) rfl hl.1 (Nat.le_of_ble_eq_true rfl) ⟨(Nat.le_of_ble_eq_true rfl), (Nat.le_of_ble_eq_true rfl)⟩ hcs dL_law_664 (fun H2 locs2 hP1 hS hz2 hk2 hex2 => ?_)
    obtain ⟨hg, hf, h17⟩ := (q_setCookie hT hC hI (xs (i + 1).toNatClampNeg) (xs (i + 2).toNatClampNeg)).1 he
    rw [hg] at hP1
    rw [hf]
    have hP0 := hP0.kept (H1 := H2) (fun a ha h => hk2 a ha (h01 a h))
    have hO := hO.kept (H1 := H2) (hk2 o hO.lt h1o)
    have hOD := hOD.kept (H1 := H2) (hk2 od hOD.lt h1d)
    refine lv_istore hx hb dL_law_667 hl (by decide) rfl (fun ls hl => ?_)
    have hl : lv_has ls 9 [(7, .int (f_X0_setCookie T C (sS σ 17 0) (xs (i + 1).toNatClampNeg) (xs (i + 2).toNatClampNeg))), (6, .int 0), (0, .ref b), (1, .ref (q0 0)), (2, .ref (q1 0)), (3, .ref o), (4, .ref od), (5, .int i)] := hl
    refine lv_aload_n hx hb dL_law_669 rfl (lv_at hl 4 rfl) ?_
    obtain ⟨T1, C1, hp1⟩ := hpl he hex
    refine cl_RI (k_X1_thrown l E q1 hq1 hp1.1 hp1.2.1 (g_X0_setCookie T C (sS σ 17 0) (xs (i + 1).toNatClampNeg) (xs (i + 2).toNatClampNeg)) hp1.2.2.1) gw_L_99 hd_X1_thrown ⟨rfl, rfl⟩ S0 hK hP1 (rest := []) rfl hl.1 (Nat.le_of_ble_eq_true rfl) ⟨(Nat.le_of_ble_eq_true rfl), (Nat.le_of_ble_eq_true rfl)⟩ hcs dL_law_670 (fun _ => ?_)
    rw [show f_X1_thrown T1 C1 (g_X0_setCookie T C (sS σ 17 0) (xs (i + 1).toNatClampNeg) (xs (i + 2).toNatClampNeg)) = 0 from h17]
    refine lv_iload hx hb dL_law_673 (lv_at hl 1 rfl) ?_
    refine lv_icmp_eq (tgt := 680) hx hb dL_law_675 (by decide) (fun _ => ?_) (fun h => absurd rfl h)
    refine lv_iload hx hb dL_law_680 (lv_at hl 1 rfl) ?_
    refine lv_if_ne (tgt := 697) hx hb dL_law_682 (by decide) (fun h => absurd rfl h) (fun _ => ?_)
    obtain ⟨fo, hfo, hPO⟩ := hO
    refine lv_aload_n hx hb dL_law_685 rfl (lv_at hl 5 rfl) ?_
    refine lv_iconst (v := 0) hx hb dL_law_686 (by decide) ?_
    refine va_lald hx hb hK hPO 0 1 rfl rfl (by unfold vp_in; decide) dL_law_687 ?_
    rw [show fo (0 : Int32).toNatClampNeg = (Int32.toInt64 (f_X0_setCookie T C (sS σ 17 0) (xs (i + 1).toNatClampNeg) (xs (i + 2).toNatClampNeg))) from hfo]
    refine lv_iload hx hb dL_law_688 (lv_at hl 0 rfl) ?_
    refine lv_i2l (v := (Int32.toInt64 (f_X0_setCookie T C (sS σ 17 0) (xs (i + 1).toNatClampNeg) (xs (i + 2).toNatClampNeg)))) hx hb dL_law_690 rfl ?_
    refine W.lcmp hx hb dL_law_691 ?_
    rw [lgc]
    refine lv_if_eq (tgt := 697) hx hb dL_law_692 (by decide) (fun _ => ?_) (fun h => absurd rfl h)
    refine lv_goto (tgt := 1609) hx hb dL_law_697 rfl ?_
    exact kk T1 C1 (g_X0_setCookie T C (sS σ 17 0) (xs (i + 1).toNatClampNeg) (xs (i + 2).toNatClampNeg)) H2 locs2 cells slots ls hp1 ⟨hP0, hP1, ⟨_, fo, hfo, hPO⟩, hOD, hS, by omega, by omega⟩ (lv_sub hl [2, 3, 4, 5, 6, 7] rfl)
  · refine ch_T (x_setCookie l hst E q0 hq0 hT hC σ hI o (xs (i + 1).toNatClampNeg) (xs (i + 2).toNatClampNeg) he) (gw_H ml_L_128 st_L_setCookie ini_L cd_L_setCookie) hd_L_setCookie rfl ⟨rfl, rfl⟩ S0 hK hP0 hXF hNC hS (rest := []) rfl hl.1 (Nat.le_of_ble_eq_true rfl) ⟨(Nat.le_of_ble_eq_true rfl), (Nat.le_of_ble_eq_true rfl)⟩ ⟨by show _ ≤ 1067; omega, by show _ ≤ 8619; omega⟩ dL_law_646 (fun H1 locs1 hS hz hk => ?_)
    have hP0 : PP 0 E q0 (sS σ 17 (e_X0_setCookie T C σ (xs (i + 1).toNatClampNeg) (xs (i + 2).toNatClampNeg))) H1 := hP0.kept (H1 := H1) (fun a ha _ => hk a ha)
    have hP1 := hP1.kept (H1 := H1) (fun a ha _ => hk a ha)
    have hO := hO.kept (H1 := H1) (hk o hO.lt)
    have hOD := hOD.kept (H1 := H1) (hk od hOD.lt)
    refine lv_istore hx hb dL_law_649 hl (by decide) rfl (fun ls hl => ?_)
    have hl : lv_has ls 9 [(6, .int (e_X0_setCookie T C σ (xs (i + 1).toNatClampNeg) (xs (i + 2).toNatClampNeg))), (0, .ref b), (1, .ref (q0 0)), (2, .ref (q1 0)), (3, .ref o), (4, .ref od), (5, .int i)] := hl
    refine lv_aload_n hx hb dL_law_651 rfl (lv_at hl 3 rfl) ?_
    refine lv_aload_n hx hb dL_law_652 rfl (lv_at hl 1 rfl) ?_
    refine lv_iload hx hb dL_law_653 (lv_at hl 6 rfl) ?_
    refine lv_iconst (v := 1) hx hb dL_law_655 (by decide) ?_
    refine lv_iadd hx hb dL_law_656 ?_
    refine va_sld hx hb hX hbl hbA hS hi1 dL_law_657 ?_
    refine lv_aload_n hx hb dL_law_658 rfl (lv_at hl 1 rfl) ?_
    refine lv_iload hx hb dL_law_659 (lv_at hl 6 rfl) ?_
    refine lv_iconst (v := 2) hx hb dL_law_661 (by decide) ?_
    refine lv_iadd hx hb dL_law_662 ?_
    refine va_sld hx hb hX hbl hbA hS hi2 dL_law_663 ?_
    have hcs : cells + 1 ≤ room_1.cells ∧ slots + 6 ≤ room_1.slots := ⟨by show _ ≤ 1067; omega, by show _ ≤ 8619; omega⟩
    refine gl_WI (A := An s) (k_X1_setCookie l E q1 hq1 hT hC σ hI (xs (i + 1).toNatClampNeg) (xs (i + 2).toNatClampNeg)) gw_L_130 hd_X1_setCookie ⟨rfl, rfl⟩ S0 hK hP1 hS (fun a h => hn1 a h) (rest := []) rfl hl.1 (Nat.le_of_ble_eq_true rfl) ⟨(Nat.le_of_ble_eq_true rfl), (Nat.le_of_ble_eq_true rfl)⟩ hcs dL_law_664 (fun H2 locs2 hP1 hS hz2 hk2 hex2 => ?_)
    have hg := (q_setCookie hT hC hI (xs (i + 1).toNatClampNeg) (xs (i + 2).toNatClampNeg)).2 he
    rw [hg] at hP1
    have hP0 := hP0.kept (H1 := H2) (fun a ha h => hk2 a ha (h01 a h))
    have hO := hO.kept (H1 := H2) (hk2 o hO.lt h1o)
    have hOD := hOD.kept (H1 := H2) (hk2 od hOD.lt h1d)
    refine lv_istore hx hb dL_law_667 hl (by decide) rfl (fun ls hl => ?_)
    have hl : lv_has ls 9 [(7, .int (f_X1_setCookie T C σ (xs (i + 1).toNatClampNeg) (xs (i + 2).toNatClampNeg))), (6, .int (e_X0_setCookie T C σ (xs (i + 1).toNatClampNeg) (xs (i + 2).toNatClampNeg))), (0, .ref b), (1, .ref (q0 0)), (2, .ref (q1 0)), (3, .ref o), (4, .ref od), (5, .int i)] := hl
    refine lv_aload_n hx hb dL_law_669 rfl (lv_at hl 4 rfl) ?_
    refine cl_RI (k_X1_thrown l E q1 hq1 (hp.s17 (e_X0_setCookie T C σ (xs (i + 1).toNatClampNeg) (xs (i + 2).toNatClampNeg))).1 (hp.s17 (e_X0_setCookie T C σ (xs (i + 1).toNatClampNeg) (xs (i + 2).toNatClampNeg))).2.1 (sS σ 17 (e_X0_setCookie T C σ (xs (i + 1).toNatClampNeg) (xs (i + 2).toNatClampNeg))) (hp.s17 (e_X0_setCookie T C σ (xs (i + 1).toNatClampNeg) (xs (i + 2).toNatClampNeg))).2.2.1) gw_L_99 hd_X1_thrown ⟨rfl, rfl⟩ S0 hK hP1 (rest := []) rfl hl.1 (Nat.le_of_ble_eq_true rfl) ⟨(Nat.le_of_ble_eq_true rfl), (Nat.le_of_ble_eq_true rfl)⟩ hcs dL_law_670 (fun _ => ?_)
    rw [show f_X1_thrown T C (sS σ 17 (e_X0_setCookie T C σ (xs (i + 1).toNatClampNeg) (xs (i + 2).toNatClampNeg))) = (e_X0_setCookie T C σ (xs (i + 1).toNatClampNeg) (xs (i + 2).toNatClampNeg)) from rfl]
    refine lv_iload hx hb dL_law_673 (lv_at hl 1 rfl) ?_
    refine lv_icmp_eq (tgt := 680) hx hb dL_law_675 (by decide) (fun _ => ?_) (fun h => absurd rfl h)
    refine lv_iload hx hb dL_law_680 (lv_at hl 1 rfl) ?_
    refine lv_if_ne (tgt := 697) hx hb dL_law_682 (by decide) (fun _ => ?_) (fun h => absurd h he)
    refine lv_goto (tgt := 1609) hx hb dL_law_697 rfl ?_
    exact kk T C (sS σ 17 (e_X0_setCookie T C σ (xs (i + 1).toNatClampNeg) (xs (i + 2).toNatClampNeg))) H2 locs2 (cells + 1) (slots + 6) ls (hp.s17 _) ⟨hP0, hP1, ⟨_, hO⟩, hOD, hS, by omega, by omega⟩ (lv_sub hl [2, 3, 4, 5, 6, 7] rfl)
set_option maxHeartbeats 1000000 in
theorem c_moveTask {p : Program} {l : Launch} {e : Env} {s : State} {m : MethodId} {args : Array Value} {below : List Frame} {meth : Method} {c : Code} {H : Heap} {locs : List Loc} {cells slots : Nat} {Q : State → Prop} {ls : Array Slot} {E : Ev} {dD : ClassId} {q0 q1 : Nat → Nat} {o od b L T C n : Nat} {xs : Nat → Int32} {i : Int32} {σ : St} (hst : l.stackTraces = false) (S0 : Fx p m c cL_law 9 s args RL) (K : LK E dD q0 q1 o od b L xs s) (hp : LPs T C n σ) (hh : LH E dD q0 q1 o od s n σ H locs cells slots) (hn : n < 512) (hl : lv_has ls 9 [(0, .ref b), (1, .ref (q0 0)), (2, .ref (q1 0)), (3, .ref o), (4, .ref od), (5, .int i)]) (hi1 : vp_in (i + 1) L) (hi2 : vp_in (i + 2) L) (hi3 : vp_in (i + 3) L)
    (hpl : (e_X0_moveTask T C σ (xs (i + 1).toNatClampNeg) (xs (i + 2).toNatClampNeg)) = 0 → Inv T C (g_X0_moveTask T C (sS σ 17 0) (xs (i + 1).toNatClampNeg) (xs (i + 2).toNatClampNeg)) ∧ True → ∃ T1 C1 : Nat, LPs T1 C1 (n + 1) (g_X0_moveTask T C (sS σ 17 0) (xs (i + 1).toNatClampNeg) (xs (i + 2).toNatClampNeg)))
    (kk : ∀ (T1 C1 : Nat) (σ1 : St) (H1 : Heap) (locs1 : List Loc) (c1 s1 : Nat) (ls : Array Slot), LPs T1 C1 (n + 1) σ1 → LH E dD q0 q1 o od s (n + 1) σ1 H1 locs1 c1 s1 → lv_has ls 9 [(0, .ref b), (1, .ref (q0 0)), (2, .ref (q1 0)), (3, .ref o), (4, .ref od), (5, .int i)] → W p l e room_1 s m args below meth c H1 locs1 c1 s1 Q (F0 m 1609 ls [])) : W p l e room_1 s m args below meth c H locs cells slots Q (F0 m 700 ls []) := by
  obtain ⟨⟨hq0, hq1, hn0, hn1, hno, hnd⟩, ⟨h01, h0o, h1o, h0d, h1d, hod⟩, ⟨hX, hbl, hL⟩, hK, hKD, hXF, hNC⟩ := K
  obtain ⟨hP0, hP1, ⟨w0, hO⟩, hOD, hS, hcl, hsl⟩ := hh
  have hT := hp.1
  have hC := hp.2.1
  have hI := hp.2.2.1
  have hx := S0.1
  have hb := S0.2.1
  have hbA : ¬ An s b := Nat.not_le.mpr hbl
  refine lv_aload_n hx hb dL_law_700 rfl (lv_at hl 1 rfl) ?_
  refine lv_aload_n hx hb dL_law_701 rfl (lv_at hl 0 rfl) ?_
  refine lv_iload hx hb dL_law_702 (lv_at hl 5 rfl) ?_
  refine lv_iconst (v := 1) hx hb dL_law_704 (by decide) ?_
  refine lv_iadd hx hb dL_law_705 ?_
  refine va_sld hx hb hX hbl hbA hS hi1 dL_law_706 ?_
  refine lv_aload_n hx hb dL_law_707 rfl (lv_at hl 0 rfl) ?_
  refine lv_iload hx hb dL_law_708 (lv_at hl 5 rfl) ?_
  refine lv_iconst (v := 2) hx hb dL_law_710 (by decide) ?_
  refine lv_iadd hx hb dL_law_711 ?_
  refine va_sld hx hb hX hbl hbA hS hi2 dL_law_712 ?_
  refine lv_aload_n hx hb dL_law_713 rfl (lv_at hl 3 rfl) ?_
  by_cases he : (e_X0_moveTask T C σ (xs (i + 1).toNatClampNeg) (xs (i + 2).toNatClampNeg)) = 0
  · have he0 : e_X0_moveTask T C (sS σ 17 0) (xs (i + 1).toNatClampNeg) (xs (i + 2).toNatClampNeg) = 0 := he
    have hP00 : PP 0 E q0 (sS σ 17 0) H := hP0
    refine ch_N (h_moveTask l E q0 hq0 hT hC (sS σ 17 0) (inv_sS ⟨by decide, by decide⟩ hI) o h0o (xs (i + 1).toNatClampNeg) (xs (i + 2).toNatClampNeg) he0) (gw_H ml_L_131 st_L_moveTask ini_L cd_L_moveTask) hd_L_moveTask rfl ⟨rfl, rfl⟩ S0 hK hP00 hO hS (fun a h => h.elim (hn0 a) (fun e9 => by rw [e9]; exact hno)) (rest := []) rfl hl.1 (Nat.le_of_ble_eq_true rfl) ⟨(Nat.le_of_ble_eq_true rfl), (Nat.le_of_ble_eq_true rfl)⟩ ⟨by show _ ≤ 1067; omega, by show _ ≤ 8619; omega⟩ dL_law_714 (fun H1 locs1 hP0 hO hS hz hk hex => ?_)
    have hP1 := hP1.kept (H1 := H1) (fun a ha h => hk a ha (fun h9 => h9.elim (fun h8 => h01 a h8 h) (fun e9 => h1o (by rw [← e9]; exact h))))
    have hOD := hOD.kept (H1 := H1) (hk od hOD.lt (fun h9 => h9.elim h0d (fun e9 => hod e9.symm)))
    refine lv_istore hx hb dL_law_717 hl (by decide) rfl (fun ls hl => ?_)
    have hl : lv_has ls 9 [(6, .int 0), (0, .ref b), (1, .ref (q0 0)), (2, .ref (q1 0)), (3, .ref o), (4, .ref od), (5, .int i)] := hl
    refine lv_aload_n hx hb dL_law_719 rfl (lv_at hl 3 rfl) ?_
    refine lv_aload_n hx hb dL_law_720 rfl (lv_at hl 1 rfl) ?_
    refine lv_iload hx hb dL_law_721 (lv_at hl 6 rfl) ?_
    refine lv_iconst (v := 1) hx hb dL_law_723 (by decide) ?_
    refine lv_iadd hx hb dL_law_724 ?_
    refine va_sld hx hb hX hbl hbA hS hi1 dL_law_725 ?_
    refine lv_aload_n hx hb dL_law_726 rfl (lv_at hl 1 rfl) ?_
    refine lv_iload hx hb dL_law_727 (lv_at hl 6 rfl) ?_
    refine lv_iconst (v := 2) hx hb dL_law_729 (by decide) ?_
    refine lv_iadd hx hb dL_law_730 ?_
    refine va_sld hx hb hX hbl hbA hS hi2 dL_law_731 ?_
    have hcs : cells ≤ room_1.cells ∧ slots ≤ room_1.slots := ⟨by show _ ≤ 1067; omega, by show _ ≤ 8619; omega⟩
    refine gl_WI (A := An s) (k_X1_moveTask l E q1 hq1 hT hC σ hI (xs (i + 1).toNatClampNeg) (xs (i + 2).toNatClampNeg)) gw_L_133 hd_X1_moveTask ⟨rfl, rfl⟩ S0 hK hP1 hS (fun a h => hn1 a h) (rest := []) rfl hl.1 (Nat.le_of_ble_eq_true rfl) ⟨(Nat.le_of_ble_eq_true rfl), (Nat.le_of_ble_eq_true rfl)⟩ hcs dL_law_732 (fun H2 locs2 hP1 hS hz2 hk2 hex2 => ?_)
    obtain ⟨hg, hf, h17⟩ := (q_moveTask hT hC hI (xs (i + 1).toNatClampNeg) (xs (i + 2).toNatClampNeg)).1 he
    rw [hg] at hP1
    rw [hf]
    have hP0 := hP0.kept (H1 := H2) (fun a ha h => hk2 a ha (h01 a h))
    have hO := hO.kept (H1 := H2) (hk2 o hO.lt h1o)
    have hOD := hOD.kept (H1 := H2) (hk2 od hOD.lt h1d)
    refine lv_istore hx hb dL_law_735 hl (by decide) rfl (fun ls hl => ?_)
    have hl : lv_has ls 9 [(7, .int (f_X0_moveTask T C (sS σ 17 0) (xs (i + 1).toNatClampNeg) (xs (i + 2).toNatClampNeg))), (6, .int 0), (0, .ref b), (1, .ref (q0 0)), (2, .ref (q1 0)), (3, .ref o), (4, .ref od), (5, .int i)] := hl
    refine lv_aload_n hx hb dL_law_737 rfl (lv_at hl 4 rfl) ?_
    obtain ⟨T1, C1, hp1⟩ := hpl he hex
    refine cl_RI (k_X1_thrown l E q1 hq1 hp1.1 hp1.2.1 (g_X0_moveTask T C (sS σ 17 0) (xs (i + 1).toNatClampNeg) (xs (i + 2).toNatClampNeg)) hp1.2.2.1) gw_L_99 hd_X1_thrown ⟨rfl, rfl⟩ S0 hK hP1 (rest := []) rfl hl.1 (Nat.le_of_ble_eq_true rfl) ⟨(Nat.le_of_ble_eq_true rfl), (Nat.le_of_ble_eq_true rfl)⟩ hcs dL_law_738 (fun _ => ?_)
    rw [show f_X1_thrown T1 C1 (g_X0_moveTask T C (sS σ 17 0) (xs (i + 1).toNatClampNeg) (xs (i + 2).toNatClampNeg)) = 0 from h17]
    refine lv_iload hx hb dL_law_741 (lv_at hl 1 rfl) ?_
    refine lv_icmp_eq (tgt := 748) hx hb dL_law_743 (by decide) (fun _ => ?_) (fun h => absurd rfl h)
    refine lv_iload hx hb dL_law_748 (lv_at hl 1 rfl) ?_
    refine lv_if_ne (tgt := 765) hx hb dL_law_750 (by decide) (fun h => absurd rfl h) (fun _ => ?_)
    obtain ⟨fo, hfo, hPO⟩ := hO
    refine lv_aload_n hx hb dL_law_753 rfl (lv_at hl 5 rfl) ?_
    refine lv_iconst (v := 0) hx hb dL_law_754 (by decide) ?_
    refine va_lald hx hb hK hPO 0 1 rfl rfl (by unfold vp_in; decide) dL_law_755 ?_
    rw [show fo (0 : Int32).toNatClampNeg = (Int32.toInt64 (f_X0_moveTask T C (sS σ 17 0) (xs (i + 1).toNatClampNeg) (xs (i + 2).toNatClampNeg))) from hfo]
    refine lv_iload hx hb dL_law_756 (lv_at hl 0 rfl) ?_
    refine lv_i2l (v := (Int32.toInt64 (f_X0_moveTask T C (sS σ 17 0) (xs (i + 1).toNatClampNeg) (xs (i + 2).toNatClampNeg)))) hx hb dL_law_758 rfl ?_
    refine W.lcmp hx hb dL_law_759 ?_
    rw [lgc]
    refine lv_if_eq (tgt := 765) hx hb dL_law_760 (by decide) (fun _ => ?_) (fun h => absurd rfl h)
    refine lv_goto (tgt := 1609) hx hb dL_law_765 rfl ?_
    exact kk T1 C1 (g_X0_moveTask T C (sS σ 17 0) (xs (i + 1).toNatClampNeg) (xs (i + 2).toNatClampNeg)) H2 locs2 cells slots ls hp1 ⟨hP0, hP1, ⟨_, fo, hfo, hPO⟩, hOD, hS, by omega, by omega⟩ (lv_sub hl [2, 3, 4, 5, 6, 7] rfl)
  · refine ch_T (x_moveTask l hst E q0 hq0 hT hC σ hI o (xs (i + 1).toNatClampNeg) (xs (i + 2).toNatClampNeg) he) (gw_H ml_L_131 st_L_moveTask ini_L cd_L_moveTask) hd_L_moveTask rfl ⟨rfl, rfl⟩ S0 hK hP0 hXF hNC hS (rest := []) rfl hl.1 (Nat.le_of_ble_eq_true rfl) ⟨(Nat.le_of_ble_eq_true rfl), (Nat.le_of_ble_eq_true rfl)⟩ ⟨by show _ ≤ 1067; omega, by show _ ≤ 8619; omega⟩ dL_law_714 (fun H1 locs1 hS hz hk => ?_)
    have hP0 : PP 0 E q0 (sS σ 17 (e_X0_moveTask T C σ (xs (i + 1).toNatClampNeg) (xs (i + 2).toNatClampNeg))) H1 := hP0.kept (H1 := H1) (fun a ha _ => hk a ha)
    have hP1 := hP1.kept (H1 := H1) (fun a ha _ => hk a ha)
    have hO := hO.kept (H1 := H1) (hk o hO.lt)
    have hOD := hOD.kept (H1 := H1) (hk od hOD.lt)
    refine lv_istore hx hb dL_law_717 hl (by decide) rfl (fun ls hl => ?_)
    have hl : lv_has ls 9 [(6, .int (e_X0_moveTask T C σ (xs (i + 1).toNatClampNeg) (xs (i + 2).toNatClampNeg))), (0, .ref b), (1, .ref (q0 0)), (2, .ref (q1 0)), (3, .ref o), (4, .ref od), (5, .int i)] := hl
    refine lv_aload_n hx hb dL_law_719 rfl (lv_at hl 3 rfl) ?_
    refine lv_aload_n hx hb dL_law_720 rfl (lv_at hl 1 rfl) ?_
    refine lv_iload hx hb dL_law_721 (lv_at hl 6 rfl) ?_
    refine lv_iconst (v := 1) hx hb dL_law_723 (by decide) ?_
    refine lv_iadd hx hb dL_law_724 ?_
    refine va_sld hx hb hX hbl hbA hS hi1 dL_law_725 ?_
    refine lv_aload_n hx hb dL_law_726 rfl (lv_at hl 1 rfl) ?_
    refine lv_iload hx hb dL_law_727 (lv_at hl 6 rfl) ?_
    refine lv_iconst (v := 2) hx hb dL_law_729 (by decide) ?_
    refine lv_iadd hx hb dL_law_730 ?_
    refine va_sld hx hb hX hbl hbA hS hi2 dL_law_731 ?_
    have hcs : cells + 1 ≤ room_1.cells ∧ slots + 6 ≤ room_1.slots := ⟨by show _ ≤ 1067; omega, by show _ ≤ 8619; omega⟩
    refine gl_WI (A := An s) (k_X1_moveTask l E q1 hq1 hT hC σ hI (xs (i + 1).toNatClampNeg) (xs (i + 2).toNatClampNeg)) gw_L_133 hd_X1_moveTask ⟨rfl, rfl⟩ S0 hK hP1 hS (fun a h => hn1 a h) (rest := []) rfl hl.1 (Nat.le_of_ble_eq_true rfl) ⟨(Nat.le_of_ble_eq_true rfl), (Nat.le_of_ble_eq_true rfl)⟩ hcs dL_law_732 (fun H2 locs2 hP1 hS hz2 hk2 hex2 => ?_)
    have hg := (q_moveTask hT hC hI (xs (i + 1).toNatClampNeg) (xs (i + 2).toNatClampNeg)).2 he
    rw [hg] at hP1
    have hP0 := hP0.kept (H1 := H2) (fun a ha h => hk2 a ha (h01 a h))
    have hO := hO.kept (H1 := H2) (hk2 o hO.lt h1o)
    have hOD := hOD.kept (H1 := H2) (hk2 od hOD.lt h1d)
    refine lv_istore hx hb dL_law_735 hl (by decide) rfl (fun ls hl => ?_)
    have hl : lv_has ls 9 [(7, .int (f_X1_moveTask T C σ (xs (i + 1).toNatClampNeg) (xs (i + 2).toNatClampNeg))), (6, .int (e_X0_moveTask T C σ (xs (i + 1).toNatClampNeg) (xs (i + 2).toNatClampNeg))), (0, .ref b), (1, .ref (q0 0)), (2, .ref (q1 0)), (3, .ref o), (4, .ref od), (5, .int i)] := hl
    refine lv_aload_n hx hb dL_law_737 rfl (lv_at hl 4 rfl) ?_
    refine cl_RI (k_X1_thrown l E q1 hq1 (hp.s17 (e_X0_moveTask T C σ (xs (i + 1).toNatClampNeg) (xs (i + 2).toNatClampNeg))).1 (hp.s17 (e_X0_moveTask T C σ (xs (i + 1).toNatClampNeg) (xs (i + 2).toNatClampNeg))).2.1 (sS σ 17 (e_X0_moveTask T C σ (xs (i + 1).toNatClampNeg) (xs (i + 2).toNatClampNeg))) (hp.s17 (e_X0_moveTask T C σ (xs (i + 1).toNatClampNeg) (xs (i + 2).toNatClampNeg))).2.2.1) gw_L_99 hd_X1_thrown ⟨rfl, rfl⟩ S0 hK hP1 (rest := []) rfl hl.1 (Nat.le_of_ble_eq_true rfl) ⟨(Nat.le_of_ble_eq_true rfl), (Nat.le_of_ble_eq_true rfl)⟩ hcs dL_law_738 (fun _ => ?_)
    rw [show f_X1_thrown T C (sS σ 17 (e_X0_moveTask T C σ (xs (i + 1).toNatClampNeg) (xs (i + 2).toNatClampNeg))) = (e_X0_moveTask T C σ (xs (i + 1).toNatClampNeg) (xs (i + 2).toNatClampNeg)) from rfl]
    refine lv_iload hx hb dL_law_741 (lv_at hl 1 rfl) ?_
    refine lv_icmp_eq (tgt := 748) hx hb dL_law_743 (by decide) (fun _ => ?_) (fun h => absurd rfl h)
    refine lv_iload hx hb dL_law_748 (lv_at hl 1 rfl) ?_
    refine lv_if_ne (tgt := 765) hx hb dL_law_750 (by decide) (fun _ => ?_) (fun h => absurd h he)
    refine lv_goto (tgt := 1609) hx hb dL_law_765 rfl ?_
    exact kk T C (sS σ 17 (e_X0_moveTask T C σ (xs (i + 1).toNatClampNeg) (xs (i + 2).toNatClampNeg))) H2 locs2 (cells + 1) (slots + 6) ls (hp.s17 _) ⟨hP0, hP1, ⟨_, hO⟩, hOD, hS, by omega, by omega⟩ (lv_sub hl [2, 3, 4, 5, 6, 7] rfl)
set_option maxHeartbeats 1000000 in
theorem c_stateOf {p : Program} {l : Launch} {e : Env} {s : State} {m : MethodId} {args : Array Value} {below : List Frame} {meth : Method} {c : Code} {H : Heap} {locs : List Loc} {cells slots : Nat} {Q : State → Prop} {ls : Array Slot} {E : Ev} {dD : ClassId} {q0 q1 : Nat → Nat} {o od b L T C n : Nat} {xs : Nat → Int32} {i : Int32} {σ : St} (hst : l.stackTraces = false) (S0 : Fx p m c cL_law 9 s args RL) (K : LK E dD q0 q1 o od b L xs s) (hp : LPs T C n σ) (hh : LH E dD q0 q1 o od s n σ H locs cells slots) (hn : n < 512) (hl : lv_has ls 9 [(0, .ref b), (1, .ref (q0 0)), (2, .ref (q1 0)), (3, .ref o), (4, .ref od), (5, .int i)]) (hi1 : vp_in (i + 1) L) (hi2 : vp_in (i + 2) L) (hi3 : vp_in (i + 3) L)
    (hpl : (e_X0_stateOf T C σ (xs (i + 1).toNatClampNeg)) = 0 → True → ∃ T1 C1 : Nat, LPs T1 C1 (n + 1) (sS σ 17 0))
    (kk : ∀ (T1 C1 : Nat) (σ1 : St) (H1 : Heap) (locs1 : List Loc) (c1 s1 : Nat) (ls : Array Slot), LPs T1 C1 (n + 1) σ1 → LH E dD q0 q1 o od s (n + 1) σ1 H1 locs1 c1 s1 → lv_has ls 9 [(0, .ref b), (1, .ref (q0 0)), (2, .ref (q1 0)), (3, .ref o), (4, .ref od), (5, .int i)] → W p l e room_1 s m args below meth c H1 locs1 c1 s1 Q (F0 m 1609 ls [])) : W p l e room_1 s m args below meth c H locs cells slots Q (F0 m 781 ls []) := by
  obtain ⟨⟨hq0, hq1, hn0, hn1, hno, hnd⟩, ⟨h01, h0o, h1o, h0d, h1d, hod⟩, ⟨hX, hbl, hL⟩, hK, hKD, hXF, hNC⟩ := K
  obtain ⟨hP0, hP1, ⟨w0, hO⟩, hOD, hS, hcl, hsl⟩ := hh
  have hT := hp.1
  have hC := hp.2.1
  have hI := hp.2.2.1
  have hx := S0.1
  have hb := S0.2.1
  have hbA : ¬ An s b := Nat.not_le.mpr hbl
  refine lv_aload_n hx hb dL_law_781 rfl (lv_at hl 1 rfl) ?_
  refine lv_aload_n hx hb dL_law_782 rfl (lv_at hl 0 rfl) ?_
  refine lv_iload hx hb dL_law_783 (lv_at hl 5 rfl) ?_
  refine lv_iconst (v := 1) hx hb dL_law_785 (by decide) ?_
  refine lv_iadd hx hb dL_law_786 ?_
  refine va_sld hx hb hX hbl hbA hS hi1 dL_law_787 ?_
  refine lv_aload_n hx hb dL_law_788 rfl (lv_at hl 3 rfl) ?_
  by_cases he : (e_X0_stateOf T C σ (xs (i + 1).toNatClampNeg)) = 0
  · have he0 : e_X0_stateOf T C (sS σ 17 0) (xs (i + 1).toNatClampNeg) = 0 := he
    have hP00 : PP 0 E q0 (sS σ 17 0) H := hP0
    refine ch_N (h_stateOf l E q0 hq0 hT hC (sS σ 17 0) (inv_sS ⟨by decide, by decide⟩ hI) o h0o (xs (i + 1).toNatClampNeg) he0) (gw_H ml_L_138 st_L_stateOf ini_L cd_L_stateOf) hd_L_stateOf rfl ⟨rfl, rfl⟩ S0 hK hP00 hO hS (fun a h => h.elim (hn0 a) (fun e9 => by rw [e9]; exact hno)) (rest := []) rfl hl.1 (Nat.le_of_ble_eq_true rfl) ⟨(Nat.le_of_ble_eq_true rfl), (Nat.le_of_ble_eq_true rfl)⟩ ⟨by show _ ≤ 1067; omega, by show _ ≤ 8619; omega⟩ dL_law_789 (fun H1 locs1 hP0 hO hS hz hk hex => ?_)
    have hP1 := hP1.kept (H1 := H1) (fun a ha h => hk a ha (fun h9 => h9.elim (fun h8 => h01 a h8 h) (fun e9 => h1o (by rw [← e9]; exact h))))
    have hOD := hOD.kept (H1 := H1) (hk od hOD.lt (fun h9 => h9.elim h0d (fun e9 => hod e9.symm)))
    refine lv_istore hx hb dL_law_792 hl (by decide) rfl (fun ls hl => ?_)
    have hl : lv_has ls 9 [(6, .int 0), (0, .ref b), (1, .ref (q0 0)), (2, .ref (q1 0)), (3, .ref o), (4, .ref od), (5, .int i)] := hl
    refine lv_aload_n hx hb dL_law_794 rfl (lv_at hl 3 rfl) ?_
    refine lv_aload_n hx hb dL_law_795 rfl (lv_at hl 1 rfl) ?_
    refine lv_iload hx hb dL_law_796 (lv_at hl 6 rfl) ?_
    refine lv_iconst (v := 1) hx hb dL_law_798 (by decide) ?_
    refine lv_iadd hx hb dL_law_799 ?_
    refine va_sld hx hb hX hbl hbA hS hi1 dL_law_800 ?_
    have hcs : cells ≤ room_1.cells ∧ slots ≤ room_1.slots := ⟨by show _ ≤ 1067; omega, by show _ ≤ 8619; omega⟩
    refine gl_WI (A := An s) (k_X1_stateOf l E q1 hq1 hT hC σ hI (xs (i + 1).toNatClampNeg)) gw_L_140 hd_X1_stateOf ⟨rfl, rfl⟩ S0 hK hP1 hS (fun a h => hn1 a h) (rest := []) rfl hl.1 (Nat.le_of_ble_eq_true rfl) ⟨(Nat.le_of_ble_eq_true rfl), (Nat.le_of_ble_eq_true rfl)⟩ hcs dL_law_801 (fun H2 locs2 hP1 hS hz2 hk2 hex2 => ?_)
    obtain ⟨hg, hf, h17⟩ := (q_stateOf hT hC hI (xs (i + 1).toNatClampNeg)).1 he
    rw [hg] at hP1
    rw [hf]
    have hP0 := hP0.kept (H1 := H2) (fun a ha h => hk2 a ha (h01 a h))
    have hO := hO.kept (H1 := H2) (hk2 o hO.lt h1o)
    have hOD := hOD.kept (H1 := H2) (hk2 od hOD.lt h1d)
    refine lv_istore hx hb dL_law_804 hl (by decide) rfl (fun ls hl => ?_)
    have hl : lv_has ls 9 [(7, .int (f_X0_stateOf T C (sS σ 17 0) (xs (i + 1).toNatClampNeg))), (6, .int 0), (0, .ref b), (1, .ref (q0 0)), (2, .ref (q1 0)), (3, .ref o), (4, .ref od), (5, .int i)] := hl
    refine lv_aload_n hx hb dL_law_806 rfl (lv_at hl 4 rfl) ?_
    obtain ⟨T1, C1, hp1⟩ := hpl he hex
    refine cl_RI (k_X1_thrown l E q1 hq1 hp1.1 hp1.2.1 (sS σ 17 0) hp1.2.2.1) gw_L_99 hd_X1_thrown ⟨rfl, rfl⟩ S0 hK hP1 (rest := []) rfl hl.1 (Nat.le_of_ble_eq_true rfl) ⟨(Nat.le_of_ble_eq_true rfl), (Nat.le_of_ble_eq_true rfl)⟩ hcs dL_law_807 (fun _ => ?_)
    rw [show f_X1_thrown T1 C1 (sS σ 17 0) = 0 from h17]
    refine lv_iload hx hb dL_law_810 (lv_at hl 1 rfl) ?_
    refine lv_icmp_eq (tgt := 817) hx hb dL_law_812 (by decide) (fun _ => ?_) (fun h => absurd rfl h)
    refine lv_iload hx hb dL_law_817 (lv_at hl 1 rfl) ?_
    refine lv_if_ne (tgt := 834) hx hb dL_law_819 (by decide) (fun h => absurd rfl h) (fun _ => ?_)
    obtain ⟨fo, hfo, hPO⟩ := hO
    refine lv_aload_n hx hb dL_law_822 rfl (lv_at hl 5 rfl) ?_
    refine lv_iconst (v := 0) hx hb dL_law_823 (by decide) ?_
    refine va_lald hx hb hK hPO 0 1 rfl rfl (by unfold vp_in; decide) dL_law_824 ?_
    rw [show fo (0 : Int32).toNatClampNeg = (Int32.toInt64 (f_X0_stateOf T C (sS σ 17 0) (xs (i + 1).toNatClampNeg))) from hfo]
    refine lv_iload hx hb dL_law_825 (lv_at hl 0 rfl) ?_
    refine lv_i2l (v := (Int32.toInt64 (f_X0_stateOf T C (sS σ 17 0) (xs (i + 1).toNatClampNeg)))) hx hb dL_law_827 rfl ?_
    refine W.lcmp hx hb dL_law_828 ?_
    rw [lgc]
    refine lv_if_eq (tgt := 834) hx hb dL_law_829 (by decide) (fun _ => ?_) (fun h => absurd rfl h)
    refine lv_goto (tgt := 1609) hx hb dL_law_834 rfl ?_
    exact kk T1 C1 (sS σ 17 0) H2 locs2 cells slots ls hp1 ⟨hP0, hP1, ⟨_, fo, hfo, hPO⟩, hOD, hS, by omega, by omega⟩ (lv_sub hl [2, 3, 4, 5, 6, 7] rfl)
  · refine ch_T (x_stateOf l hst E q0 hq0 hT hC σ hI o (xs (i + 1).toNatClampNeg) he) (gw_H ml_L_138 st_L_stateOf ini_L cd_L_stateOf) hd_L_stateOf rfl ⟨rfl, rfl⟩ S0 hK hP0 hXF hNC hS (rest := []) rfl hl.1 (Nat.le_of_ble_eq_true rfl) ⟨(Nat.le_of_ble_eq_true rfl), (Nat.le_of_ble_eq_true rfl)⟩ ⟨by show _ ≤ 1067; omega, by show _ ≤ 8619; omega⟩ dL_law_789 (fun H1 locs1 hS hz hk => ?_)
    have hP0 : PP 0 E q0 (sS σ 17 (e_X0_stateOf T C σ (xs (i + 1).toNatClampNeg))) H1 := hP0.kept (H1 := H1) (fun a ha _ => hk a ha)
    have hP1 := hP1.kept (H1 := H1) (fun a ha _ => hk a ha)
    have hO := hO.kept (H1 := H1) (hk o hO.lt)
    have hOD := hOD.kept (H1 := H1) (hk od hOD.lt)
    refine lv_istore hx hb dL_law_792 hl (by decide) rfl (fun ls hl => ?_)
    have hl : lv_has ls 9 [(6, .int (e_X0_stateOf T C σ (xs (i + 1).toNatClampNeg))), (0, .ref b), (1, .ref (q0 0)), (2, .ref (q1 0)), (3, .ref o), (4, .ref od), (5, .int i)] := hl
    refine lv_aload_n hx hb dL_law_794 rfl (lv_at hl 3 rfl) ?_
    refine lv_aload_n hx hb dL_law_795 rfl (lv_at hl 1 rfl) ?_
    refine lv_iload hx hb dL_law_796 (lv_at hl 6 rfl) ?_
    refine lv_iconst (v := 1) hx hb dL_law_798 (by decide) ?_
    refine lv_iadd hx hb dL_law_799 ?_
    refine va_sld hx hb hX hbl hbA hS hi1 dL_law_800 ?_
    have hcs : cells + 1 ≤ room_1.cells ∧ slots + 6 ≤ room_1.slots := ⟨by show _ ≤ 1067; omega, by show _ ≤ 8619; omega⟩
    refine gl_WI (A := An s) (k_X1_stateOf l E q1 hq1 hT hC σ hI (xs (i + 1).toNatClampNeg)) gw_L_140 hd_X1_stateOf ⟨rfl, rfl⟩ S0 hK hP1 hS (fun a h => hn1 a h) (rest := []) rfl hl.1 (Nat.le_of_ble_eq_true rfl) ⟨(Nat.le_of_ble_eq_true rfl), (Nat.le_of_ble_eq_true rfl)⟩ hcs dL_law_801 (fun H2 locs2 hP1 hS hz2 hk2 hex2 => ?_)
    have hg := (q_stateOf hT hC hI (xs (i + 1).toNatClampNeg)).2 he
    rw [hg] at hP1
    have hP0 := hP0.kept (H1 := H2) (fun a ha h => hk2 a ha (h01 a h))
    have hO := hO.kept (H1 := H2) (hk2 o hO.lt h1o)
    have hOD := hOD.kept (H1 := H2) (hk2 od hOD.lt h1d)
    refine lv_istore hx hb dL_law_804 hl (by decide) rfl (fun ls hl => ?_)
    have hl : lv_has ls 9 [(7, .int (f_X1_stateOf T C σ (xs (i + 1).toNatClampNeg))), (6, .int (e_X0_stateOf T C σ (xs (i + 1).toNatClampNeg))), (0, .ref b), (1, .ref (q0 0)), (2, .ref (q1 0)), (3, .ref o), (4, .ref od), (5, .int i)] := hl
    refine lv_aload_n hx hb dL_law_806 rfl (lv_at hl 4 rfl) ?_
    refine cl_RI (k_X1_thrown l E q1 hq1 (hp.s17 (e_X0_stateOf T C σ (xs (i + 1).toNatClampNeg))).1 (hp.s17 (e_X0_stateOf T C σ (xs (i + 1).toNatClampNeg))).2.1 (sS σ 17 (e_X0_stateOf T C σ (xs (i + 1).toNatClampNeg))) (hp.s17 (e_X0_stateOf T C σ (xs (i + 1).toNatClampNeg))).2.2.1) gw_L_99 hd_X1_thrown ⟨rfl, rfl⟩ S0 hK hP1 (rest := []) rfl hl.1 (Nat.le_of_ble_eq_true rfl) ⟨(Nat.le_of_ble_eq_true rfl), (Nat.le_of_ble_eq_true rfl)⟩ hcs dL_law_807 (fun _ => ?_)
    rw [show f_X1_thrown T C (sS σ 17 (e_X0_stateOf T C σ (xs (i + 1).toNatClampNeg))) = (e_X0_stateOf T C σ (xs (i + 1).toNatClampNeg)) from rfl]
    refine lv_iload hx hb dL_law_810 (lv_at hl 1 rfl) ?_
    refine lv_icmp_eq (tgt := 817) hx hb dL_law_812 (by decide) (fun _ => ?_) (fun h => absurd rfl h)
    refine lv_iload hx hb dL_law_817 (lv_at hl 1 rfl) ?_
    refine lv_if_ne (tgt := 834) hx hb dL_law_819 (by decide) (fun _ => ?_) (fun h => absurd h he)
    refine lv_goto (tgt := 1609) hx hb dL_law_834 rfl ?_
    exact kk T C (sS σ 17 (e_X0_stateOf T C σ (xs (i + 1).toNatClampNeg))) H2 locs2 (cells + 1) (slots + 6) ls (hp.s17 _) ⟨hP0, hP1, ⟨_, hO⟩, hOD, hS, by omega, by omega⟩ (lv_sub hl [2, 3, 4, 5, 6, 7] rfl)
set_option maxHeartbeats 1000000 in
theorem c_cpuOf {p : Program} {l : Launch} {e : Env} {s : State} {m : MethodId} {args : Array Value} {below : List Frame} {meth : Method} {c : Code} {H : Heap} {locs : List Loc} {cells slots : Nat} {Q : State → Prop} {ls : Array Slot} {E : Ev} {dD : ClassId} {q0 q1 : Nat → Nat} {o od b L T C n : Nat} {xs : Nat → Int32} {i : Int32} {σ : St} (hst : l.stackTraces = false) (S0 : Fx p m c cL_law 9 s args RL) (K : LK E dD q0 q1 o od b L xs s) (hp : LPs T C n σ) (hh : LH E dD q0 q1 o od s n σ H locs cells slots) (hn : n < 512) (hl : lv_has ls 9 [(0, .ref b), (1, .ref (q0 0)), (2, .ref (q1 0)), (3, .ref o), (4, .ref od), (5, .int i)]) (hi1 : vp_in (i + 1) L) (hi2 : vp_in (i + 2) L) (hi3 : vp_in (i + 3) L)
    (hpl : (e_X0_cpuOf T C σ (xs (i + 1).toNatClampNeg)) = 0 → True → ∃ T1 C1 : Nat, LPs T1 C1 (n + 1) (sS σ 17 0))
    (kk : ∀ (T1 C1 : Nat) (σ1 : St) (H1 : Heap) (locs1 : List Loc) (c1 s1 : Nat) (ls : Array Slot), LPs T1 C1 (n + 1) σ1 → LH E dD q0 q1 o od s (n + 1) σ1 H1 locs1 c1 s1 → lv_has ls 9 [(0, .ref b), (1, .ref (q0 0)), (2, .ref (q1 0)), (3, .ref o), (4, .ref od), (5, .int i)] → W p l e room_1 s m args below meth c H1 locs1 c1 s1 Q (F0 m 1609 ls [])) : W p l e room_1 s m args below meth c H locs cells slots Q (F0 m 837 ls []) := by
  obtain ⟨⟨hq0, hq1, hn0, hn1, hno, hnd⟩, ⟨h01, h0o, h1o, h0d, h1d, hod⟩, ⟨hX, hbl, hL⟩, hK, hKD, hXF, hNC⟩ := K
  obtain ⟨hP0, hP1, ⟨w0, hO⟩, hOD, hS, hcl, hsl⟩ := hh
  have hT := hp.1
  have hC := hp.2.1
  have hI := hp.2.2.1
  have hx := S0.1
  have hb := S0.2.1
  have hbA : ¬ An s b := Nat.not_le.mpr hbl
  refine lv_aload_n hx hb dL_law_837 rfl (lv_at hl 1 rfl) ?_
  refine lv_aload_n hx hb dL_law_838 rfl (lv_at hl 0 rfl) ?_
  refine lv_iload hx hb dL_law_839 (lv_at hl 5 rfl) ?_
  refine lv_iconst (v := 1) hx hb dL_law_841 (by decide) ?_
  refine lv_iadd hx hb dL_law_842 ?_
  refine va_sld hx hb hX hbl hbA hS hi1 dL_law_843 ?_
  refine lv_aload_n hx hb dL_law_844 rfl (lv_at hl 3 rfl) ?_
  by_cases he : (e_X0_cpuOf T C σ (xs (i + 1).toNatClampNeg)) = 0
  · have he0 : e_X0_cpuOf T C (sS σ 17 0) (xs (i + 1).toNatClampNeg) = 0 := he
    have hP00 : PP 0 E q0 (sS σ 17 0) H := hP0
    refine ch_N (h_cpuOf l E q0 hq0 hT hC (sS σ 17 0) (inv_sS ⟨by decide, by decide⟩ hI) o h0o (xs (i + 1).toNatClampNeg) he0) (gw_H ml_L_141 st_L_cpuOf ini_L cd_L_cpuOf) hd_L_cpuOf rfl ⟨rfl, rfl⟩ S0 hK hP00 hO hS (fun a h => h.elim (hn0 a) (fun e9 => by rw [e9]; exact hno)) (rest := []) rfl hl.1 (Nat.le_of_ble_eq_true rfl) ⟨(Nat.le_of_ble_eq_true rfl), (Nat.le_of_ble_eq_true rfl)⟩ ⟨by show _ ≤ 1067; omega, by show _ ≤ 8619; omega⟩ dL_law_845 (fun H1 locs1 hP0 hO hS hz hk hex => ?_)
    have hP1 := hP1.kept (H1 := H1) (fun a ha h => hk a ha (fun h9 => h9.elim (fun h8 => h01 a h8 h) (fun e9 => h1o (by rw [← e9]; exact h))))
    have hOD := hOD.kept (H1 := H1) (hk od hOD.lt (fun h9 => h9.elim h0d (fun e9 => hod e9.symm)))
    refine lv_istore hx hb dL_law_848 hl (by decide) rfl (fun ls hl => ?_)
    have hl : lv_has ls 9 [(6, .int 0), (0, .ref b), (1, .ref (q0 0)), (2, .ref (q1 0)), (3, .ref o), (4, .ref od), (5, .int i)] := hl
    refine lv_aload_n hx hb dL_law_850 rfl (lv_at hl 3 rfl) ?_
    refine lv_aload_n hx hb dL_law_851 rfl (lv_at hl 1 rfl) ?_
    refine lv_iload hx hb dL_law_852 (lv_at hl 6 rfl) ?_
    refine lv_iconst (v := 1) hx hb dL_law_854 (by decide) ?_
    refine lv_iadd hx hb dL_law_855 ?_
    refine va_sld hx hb hX hbl hbA hS hi1 dL_law_856 ?_
    have hcs : cells ≤ room_1.cells ∧ slots ≤ room_1.slots := ⟨by show _ ≤ 1067; omega, by show _ ≤ 8619; omega⟩
    refine gl_WI (A := An s) (k_X1_cpuOf l E q1 hq1 hT hC σ hI (xs (i + 1).toNatClampNeg)) gw_L_143 hd_X1_cpuOf ⟨rfl, rfl⟩ S0 hK hP1 hS (fun a h => hn1 a h) (rest := []) rfl hl.1 (Nat.le_of_ble_eq_true rfl) ⟨(Nat.le_of_ble_eq_true rfl), (Nat.le_of_ble_eq_true rfl)⟩ hcs dL_law_857 (fun H2 locs2 hP1 hS hz2 hk2 hex2 => ?_)
    obtain ⟨hg, hf, h17⟩ := (q_cpuOf hT hC hI (xs (i + 1).toNatClampNeg)).1 he
    rw [hg] at hP1
    rw [hf]
    have hP0 := hP0.kept (H1 := H2) (fun a ha h => hk2 a ha (h01 a h))
    have hO := hO.kept (H1 := H2) (hk2 o hO.lt h1o)
    have hOD := hOD.kept (H1 := H2) (hk2 od hOD.lt h1d)
    refine lv_istore hx hb dL_law_860 hl (by decide) rfl (fun ls hl => ?_)
    have hl : lv_has ls 9 [(7, .int (f_X0_cpuOf T C (sS σ 17 0) (xs (i + 1).toNatClampNeg))), (6, .int 0), (0, .ref b), (1, .ref (q0 0)), (2, .ref (q1 0)), (3, .ref o), (4, .ref od), (5, .int i)] := hl
    refine lv_aload_n hx hb dL_law_862 rfl (lv_at hl 4 rfl) ?_
    obtain ⟨T1, C1, hp1⟩ := hpl he hex
    refine cl_RI (k_X1_thrown l E q1 hq1 hp1.1 hp1.2.1 (sS σ 17 0) hp1.2.2.1) gw_L_99 hd_X1_thrown ⟨rfl, rfl⟩ S0 hK hP1 (rest := []) rfl hl.1 (Nat.le_of_ble_eq_true rfl) ⟨(Nat.le_of_ble_eq_true rfl), (Nat.le_of_ble_eq_true rfl)⟩ hcs dL_law_863 (fun _ => ?_)
    rw [show f_X1_thrown T1 C1 (sS σ 17 0) = 0 from h17]
    refine lv_iload hx hb dL_law_866 (lv_at hl 1 rfl) ?_
    refine lv_icmp_eq (tgt := 873) hx hb dL_law_868 (by decide) (fun _ => ?_) (fun h => absurd rfl h)
    refine lv_iload hx hb dL_law_873 (lv_at hl 1 rfl) ?_
    refine lv_if_ne (tgt := 890) hx hb dL_law_875 (by decide) (fun h => absurd rfl h) (fun _ => ?_)
    obtain ⟨fo, hfo, hPO⟩ := hO
    refine lv_aload_n hx hb dL_law_878 rfl (lv_at hl 5 rfl) ?_
    refine lv_iconst (v := 0) hx hb dL_law_879 (by decide) ?_
    refine va_lald hx hb hK hPO 0 1 rfl rfl (by unfold vp_in; decide) dL_law_880 ?_
    rw [show fo (0 : Int32).toNatClampNeg = (Int32.toInt64 (f_X0_cpuOf T C (sS σ 17 0) (xs (i + 1).toNatClampNeg))) from hfo]
    refine lv_iload hx hb dL_law_881 (lv_at hl 0 rfl) ?_
    refine lv_i2l (v := (Int32.toInt64 (f_X0_cpuOf T C (sS σ 17 0) (xs (i + 1).toNatClampNeg)))) hx hb dL_law_883 rfl ?_
    refine W.lcmp hx hb dL_law_884 ?_
    rw [lgc]
    refine lv_if_eq (tgt := 890) hx hb dL_law_885 (by decide) (fun _ => ?_) (fun h => absurd rfl h)
    refine lv_goto (tgt := 1609) hx hb dL_law_890 rfl ?_
    exact kk T1 C1 (sS σ 17 0) H2 locs2 cells slots ls hp1 ⟨hP0, hP1, ⟨_, fo, hfo, hPO⟩, hOD, hS, by omega, by omega⟩ (lv_sub hl [2, 3, 4, 5, 6, 7] rfl)
  · refine ch_T (x_cpuOf l hst E q0 hq0 hT hC σ hI o (xs (i + 1).toNatClampNeg) he) (gw_H ml_L_141 st_L_cpuOf ini_L cd_L_cpuOf) hd_L_cpuOf rfl ⟨rfl, rfl⟩ S0 hK hP0 hXF hNC hS (rest := []) rfl hl.1 (Nat.le_of_ble_eq_true rfl) ⟨(Nat.le_of_ble_eq_true rfl), (Nat.le_of_ble_eq_true rfl)⟩ ⟨by show _ ≤ 1067; omega, by show _ ≤ 8619; omega⟩ dL_law_845 (fun H1 locs1 hS hz hk => ?_)
    have hP0 : PP 0 E q0 (sS σ 17 (e_X0_cpuOf T C σ (xs (i + 1).toNatClampNeg))) H1 := hP0.kept (H1 := H1) (fun a ha _ => hk a ha)
    have hP1 := hP1.kept (H1 := H1) (fun a ha _ => hk a ha)
    have hO := hO.kept (H1 := H1) (hk o hO.lt)
    have hOD := hOD.kept (H1 := H1) (hk od hOD.lt)
    refine lv_istore hx hb dL_law_848 hl (by decide) rfl (fun ls hl => ?_)
    have hl : lv_has ls 9 [(6, .int (e_X0_cpuOf T C σ (xs (i + 1).toNatClampNeg))), (0, .ref b), (1, .ref (q0 0)), (2, .ref (q1 0)), (3, .ref o), (4, .ref od), (5, .int i)] := hl
    refine lv_aload_n hx hb dL_law_850 rfl (lv_at hl 3 rfl) ?_
    refine lv_aload_n hx hb dL_law_851 rfl (lv_at hl 1 rfl) ?_
    refine lv_iload hx hb dL_law_852 (lv_at hl 6 rfl) ?_
    refine lv_iconst (v := 1) hx hb dL_law_854 (by decide) ?_
    refine lv_iadd hx hb dL_law_855 ?_
    refine va_sld hx hb hX hbl hbA hS hi1 dL_law_856 ?_
    have hcs : cells + 1 ≤ room_1.cells ∧ slots + 6 ≤ room_1.slots := ⟨by show _ ≤ 1067; omega, by show _ ≤ 8619; omega⟩
    refine gl_WI (A := An s) (k_X1_cpuOf l E q1 hq1 hT hC σ hI (xs (i + 1).toNatClampNeg)) gw_L_143 hd_X1_cpuOf ⟨rfl, rfl⟩ S0 hK hP1 hS (fun a h => hn1 a h) (rest := []) rfl hl.1 (Nat.le_of_ble_eq_true rfl) ⟨(Nat.le_of_ble_eq_true rfl), (Nat.le_of_ble_eq_true rfl)⟩ hcs dL_law_857 (fun H2 locs2 hP1 hS hz2 hk2 hex2 => ?_)
    have hg := (q_cpuOf hT hC hI (xs (i + 1).toNatClampNeg)).2 he
    rw [hg] at hP1
    have hP0 := hP0.kept (H1 := H2) (fun a ha h => hk2 a ha (h01 a h))
    have hO := hO.kept (H1 := H2) (hk2 o hO.lt h1o)
    have hOD := hOD.kept (H1 := H2) (hk2 od hOD.lt h1d)
    refine lv_istore hx hb dL_law_860 hl (by decide) rfl (fun ls hl => ?_)
    have hl : lv_has ls 9 [(7, .int (f_X1_cpuOf T C σ (xs (i + 1).toNatClampNeg))), (6, .int (e_X0_cpuOf T C σ (xs (i + 1).toNatClampNeg))), (0, .ref b), (1, .ref (q0 0)), (2, .ref (q1 0)), (3, .ref o), (4, .ref od), (5, .int i)] := hl
    refine lv_aload_n hx hb dL_law_862 rfl (lv_at hl 4 rfl) ?_
    refine cl_RI (k_X1_thrown l E q1 hq1 (hp.s17 (e_X0_cpuOf T C σ (xs (i + 1).toNatClampNeg))).1 (hp.s17 (e_X0_cpuOf T C σ (xs (i + 1).toNatClampNeg))).2.1 (sS σ 17 (e_X0_cpuOf T C σ (xs (i + 1).toNatClampNeg))) (hp.s17 (e_X0_cpuOf T C σ (xs (i + 1).toNatClampNeg))).2.2.1) gw_L_99 hd_X1_thrown ⟨rfl, rfl⟩ S0 hK hP1 (rest := []) rfl hl.1 (Nat.le_of_ble_eq_true rfl) ⟨(Nat.le_of_ble_eq_true rfl), (Nat.le_of_ble_eq_true rfl)⟩ hcs dL_law_863 (fun _ => ?_)
    rw [show f_X1_thrown T C (sS σ 17 (e_X0_cpuOf T C σ (xs (i + 1).toNatClampNeg))) = (e_X0_cpuOf T C σ (xs (i + 1).toNatClampNeg)) from rfl]
    refine lv_iload hx hb dL_law_866 (lv_at hl 1 rfl) ?_
    refine lv_icmp_eq (tgt := 873) hx hb dL_law_868 (by decide) (fun _ => ?_) (fun h => absurd rfl h)
    refine lv_iload hx hb dL_law_873 (lv_at hl 1 rfl) ?_
    refine lv_if_ne (tgt := 890) hx hb dL_law_875 (by decide) (fun _ => ?_) (fun h => absurd h he)
    refine lv_goto (tgt := 1609) hx hb dL_law_890 rfl ?_
    exact kk T C (sS σ 17 (e_X0_cpuOf T C σ (xs (i + 1).toNatClampNeg))) H2 locs2 (cells + 1) (slots + 6) ls (hp.s17 _) ⟨hP0, hP1, ⟨_, hO⟩, hOD, hS, by omega, by omega⟩ (lv_sub hl [2, 3, 4, 5, 6, 7] rfl)
set_option maxHeartbeats 1000000 in
theorem c_virtualTime {p : Program} {l : Launch} {e : Env} {s : State} {m : MethodId} {args : Array Value} {below : List Frame} {meth : Method} {c : Code} {H : Heap} {locs : List Loc} {cells slots : Nat} {Q : State → Prop} {ls : Array Slot} {E : Ev} {dD : ClassId} {q0 q1 : Nat → Nat} {o od b L T C n : Nat} {xs : Nat → Int32} {i : Int32} {σ : St} (hst : l.stackTraces = false) (S0 : Fx p m c cL_law 9 s args RL) (K : LK E dD q0 q1 o od b L xs s) (hp : LPs T C n σ) (hh : LH E dD q0 q1 o od s n σ H locs cells slots) (hn : n < 512) (hl : lv_has ls 9 [(0, .ref b), (1, .ref (q0 0)), (2, .ref (q1 0)), (3, .ref o), (4, .ref od), (5, .int i)]) (hi1 : vp_in (i + 1) L) (hi2 : vp_in (i + 2) L) (hi3 : vp_in (i + 3) L)
    (hpl : (e_X0_virtualTime T C σ (xs (i + 1).toNatClampNeg)) = 0 → True → ∃ T1 C1 : Nat, LPs T1 C1 (n + 1) (sS σ 17 0))
    (kk : ∀ (T1 C1 : Nat) (σ1 : St) (H1 : Heap) (locs1 : List Loc) (c1 s1 : Nat) (ls : Array Slot), LPs T1 C1 (n + 1) σ1 → LH E dD q0 q1 o od s (n + 1) σ1 H1 locs1 c1 s1 → lv_has ls 9 [(0, .ref b), (1, .ref (q0 0)), (2, .ref (q1 0)), (3, .ref o), (4, .ref od), (5, .int i)] → W p l e room_1 s m args below meth c H1 locs1 c1 s1 Q (F0 m 1609 ls [])) : W p l e room_1 s m args below meth c H locs cells slots Q (F0 m 893 ls []) := by
  obtain ⟨⟨hq0, hq1, hn0, hn1, hno, hnd⟩, ⟨h01, h0o, h1o, h0d, h1d, hod⟩, ⟨hX, hbl, hL⟩, hK, hKD, hXF, hNC⟩ := K
  obtain ⟨hP0, hP1, ⟨w0, hO⟩, hOD, hS, hcl, hsl⟩ := hh
  have hT := hp.1
  have hC := hp.2.1
  have hI := hp.2.2.1
  have hx := S0.1
  have hb := S0.2.1
  have hbA : ¬ An s b := Nat.not_le.mpr hbl
  refine lv_aload_n hx hb dL_law_893 rfl (lv_at hl 1 rfl) ?_
  refine lv_aload_n hx hb dL_law_894 rfl (lv_at hl 0 rfl) ?_
  refine lv_iload hx hb dL_law_895 (lv_at hl 5 rfl) ?_
  refine lv_iconst (v := 1) hx hb dL_law_897 (by decide) ?_
  refine lv_iadd hx hb dL_law_898 ?_
  refine va_sld hx hb hX hbl hbA hS hi1 dL_law_899 ?_
  refine lv_aload_n hx hb dL_law_900 rfl (lv_at hl 3 rfl) ?_
  by_cases he : (e_X0_virtualTime T C σ (xs (i + 1).toNatClampNeg)) = 0
  · have he0 : e_X0_virtualTime T C (sS σ 17 0) (xs (i + 1).toNatClampNeg) = 0 := he
    have hP00 : PP 0 E q0 (sS σ 17 0) H := hP0
    refine ch_N (h_virtualTime l E q0 hq0 hT hC (sS σ 17 0) (inv_sS ⟨by decide, by decide⟩ hI) o h0o (xs (i + 1).toNatClampNeg) he0) (gw_H ml_L_144 st_L_virtualTime ini_L cd_L_virtualTime) hd_L_virtualTime rfl ⟨rfl, rfl⟩ S0 hK hP00 hO hS (fun a h => h.elim (hn0 a) (fun e9 => by rw [e9]; exact hno)) (rest := []) rfl hl.1 (Nat.le_of_ble_eq_true rfl) ⟨(Nat.le_of_ble_eq_true rfl), (Nat.le_of_ble_eq_true rfl)⟩ ⟨by show _ ≤ 1067; omega, by show _ ≤ 8619; omega⟩ dL_law_901 (fun H1 locs1 hP0 hO hS hz hk hex => ?_)
    have hP1 := hP1.kept (H1 := H1) (fun a ha h => hk a ha (fun h9 => h9.elim (fun h8 => h01 a h8 h) (fun e9 => h1o (by rw [← e9]; exact h))))
    have hOD := hOD.kept (H1 := H1) (hk od hOD.lt (fun h9 => h9.elim h0d (fun e9 => hod e9.symm)))
    refine lv_istore hx hb dL_law_904 hl (by decide) rfl (fun ls hl => ?_)
    have hl : lv_has ls 9 [(6, .int 0), (0, .ref b), (1, .ref (q0 0)), (2, .ref (q1 0)), (3, .ref o), (4, .ref od), (5, .int i)] := hl
    refine lv_aload_n hx hb dL_law_906 rfl (lv_at hl 3 rfl) ?_
    refine lv_aload_n hx hb dL_law_907 rfl (lv_at hl 1 rfl) ?_
    refine lv_iload hx hb dL_law_908 (lv_at hl 6 rfl) ?_
    refine lv_iconst (v := 1) hx hb dL_law_910 (by decide) ?_
    refine lv_iadd hx hb dL_law_911 ?_
    refine va_sld hx hb hX hbl hbA hS hi1 dL_law_912 ?_
    have hcs : cells ≤ room_1.cells ∧ slots ≤ room_1.slots := ⟨by show _ ≤ 1067; omega, by show _ ≤ 8619; omega⟩
    refine gl_WJ (A := An s) (k_X1_virtualTime l E q1 hq1 hT hC σ hI (xs (i + 1).toNatClampNeg)) gw_L_146 hd_X1_virtualTime ⟨rfl, rfl⟩ S0 hK hP1 hS (fun a h => hn1 a h) (rest := []) rfl hl.1 (Nat.le_of_ble_eq_true rfl) ⟨(Nat.le_of_ble_eq_true rfl), (Nat.le_of_ble_eq_true rfl)⟩ hcs dL_law_913 (fun H2 locs2 hP1 hS hz2 hk2 hex2 => ?_)
    obtain ⟨hg, hf, h17⟩ := (q_virtualTime hT hC hI (xs (i + 1).toNatClampNeg)).1 he
    rw [hg] at hP1
    rw [hf]
    have hP0 := hP0.kept (H1 := H2) (fun a ha h => hk2 a ha (h01 a h))
    have hO := hO.kept (H1 := H2) (hk2 o hO.lt h1o)
    have hOD := hOD.kept (H1 := H2) (hk2 od hOD.lt h1d)
    refine lv_lstore hx hb dL_law_916 hl (by decide) rfl (fun ls hl => ?_)
    have hl : lv_has ls 9 [(7, .long (f_X0_virtualTime T C (sS σ 17 0) (xs (i + 1).toNatClampNeg))), (6, .int 0), (0, .ref b), (1, .ref (q0 0)), (2, .ref (q1 0)), (3, .ref o), (4, .ref od), (5, .int i)] := hl
    refine lv_aload_n hx hb dL_law_918 rfl (lv_at hl 4 rfl) ?_
    obtain ⟨T1, C1, hp1⟩ := hpl he hex
    refine cl_RI (k_X1_thrown l E q1 hq1 hp1.1 hp1.2.1 (sS σ 17 0) hp1.2.2.1) gw_L_99 hd_X1_thrown ⟨rfl, rfl⟩ S0 hK hP1 (rest := []) rfl hl.1 (Nat.le_of_ble_eq_true rfl) ⟨(Nat.le_of_ble_eq_true rfl), (Nat.le_of_ble_eq_true rfl)⟩ hcs dL_law_919 (fun _ => ?_)
    rw [show f_X1_thrown T1 C1 (sS σ 17 0) = 0 from h17]
    refine lv_iload hx hb dL_law_922 (lv_at hl 1 rfl) ?_
    refine lv_icmp_eq (tgt := 929) hx hb dL_law_924 (by decide) (fun _ => ?_) (fun h => absurd rfl h)
    refine lv_iload hx hb dL_law_929 (lv_at hl 1 rfl) ?_
    refine lv_if_ne (tgt := 945) hx hb dL_law_931 (by decide) (fun h => absurd rfl h) (fun _ => ?_)
    obtain ⟨fo, hfo, hPO⟩ := hO
    refine lv_aload_n hx hb dL_law_934 rfl (lv_at hl 5 rfl) ?_
    refine lv_iconst (v := 0) hx hb dL_law_935 (by decide) ?_
    refine va_lald hx hb hK hPO 0 1 rfl rfl (by unfold vp_in; decide) dL_law_936 ?_
    rw [show fo (0 : Int32).toNatClampNeg = (f_X0_virtualTime T C (sS σ 17 0) (xs (i + 1).toNatClampNeg)) from hfo]
    refine lv_lload hx hb dL_law_937 (lv_at hl 0 rfl) ?_
    refine W.lcmp hx hb dL_law_939 ?_
    rw [lgc]
    refine lv_if_eq (tgt := 945) hx hb dL_law_940 (by decide) (fun _ => ?_) (fun h => absurd rfl h)
    refine lv_goto (tgt := 1609) hx hb dL_law_945 rfl ?_
    exact kk T1 C1 (sS σ 17 0) H2 locs2 cells slots ls hp1 ⟨hP0, hP1, ⟨_, fo, hfo, hPO⟩, hOD, hS, by omega, by omega⟩ (lv_sub hl [2, 3, 4, 5, 6, 7] rfl)
  · refine ch_T (x_virtualTime l hst E q0 hq0 hT hC σ hI o (xs (i + 1).toNatClampNeg) he) (gw_H ml_L_144 st_L_virtualTime ini_L cd_L_virtualTime) hd_L_virtualTime rfl ⟨rfl, rfl⟩ S0 hK hP0 hXF hNC hS (rest := []) rfl hl.1 (Nat.le_of_ble_eq_true rfl) ⟨(Nat.le_of_ble_eq_true rfl), (Nat.le_of_ble_eq_true rfl)⟩ ⟨by show _ ≤ 1067; omega, by show _ ≤ 8619; omega⟩ dL_law_901 (fun H1 locs1 hS hz hk => ?_)
    have hP0 : PP 0 E q0 (sS σ 17 (e_X0_virtualTime T C σ (xs (i + 1).toNatClampNeg))) H1 := hP0.kept (H1 := H1) (fun a ha _ => hk a ha)
    have hP1 := hP1.kept (H1 := H1) (fun a ha _ => hk a ha)
    have hO := hO.kept (H1 := H1) (hk o hO.lt)
    have hOD := hOD.kept (H1 := H1) (hk od hOD.lt)
    refine lv_istore hx hb dL_law_904 hl (by decide) rfl (fun ls hl => ?_)
    have hl : lv_has ls 9 [(6, .int (e_X0_virtualTime T C σ (xs (i + 1).toNatClampNeg))), (0, .ref b), (1, .ref (q0 0)), (2, .ref (q1 0)), (3, .ref o), (4, .ref od), (5, .int i)] := hl
    refine lv_aload_n hx hb dL_law_906 rfl (lv_at hl 3 rfl) ?_
    refine lv_aload_n hx hb dL_law_907 rfl (lv_at hl 1 rfl) ?_
    refine lv_iload hx hb dL_law_908 (lv_at hl 6 rfl) ?_
    refine lv_iconst (v := 1) hx hb dL_law_910 (by decide) ?_
    refine lv_iadd hx hb dL_law_911 ?_
    refine va_sld hx hb hX hbl hbA hS hi1 dL_law_912 ?_
    have hcs : cells + 1 ≤ room_1.cells ∧ slots + 6 ≤ room_1.slots := ⟨by show _ ≤ 1067; omega, by show _ ≤ 8619; omega⟩
    refine gl_WJ (A := An s) (k_X1_virtualTime l E q1 hq1 hT hC σ hI (xs (i + 1).toNatClampNeg)) gw_L_146 hd_X1_virtualTime ⟨rfl, rfl⟩ S0 hK hP1 hS (fun a h => hn1 a h) (rest := []) rfl hl.1 (Nat.le_of_ble_eq_true rfl) ⟨(Nat.le_of_ble_eq_true rfl), (Nat.le_of_ble_eq_true rfl)⟩ hcs dL_law_913 (fun H2 locs2 hP1 hS hz2 hk2 hex2 => ?_)
    have hg := (q_virtualTime hT hC hI (xs (i + 1).toNatClampNeg)).2 he
    rw [hg] at hP1
    have hP0 := hP0.kept (H1 := H2) (fun a ha h => hk2 a ha (h01 a h))
    have hO := hO.kept (H1 := H2) (hk2 o hO.lt h1o)
    have hOD := hOD.kept (H1 := H2) (hk2 od hOD.lt h1d)
    refine lv_lstore hx hb dL_law_916 hl (by decide) rfl (fun ls hl => ?_)
    have hl : lv_has ls 9 [(7, .long (f_X1_virtualTime T C σ (xs (i + 1).toNatClampNeg))), (6, .int (e_X0_virtualTime T C σ (xs (i + 1).toNatClampNeg))), (0, .ref b), (1, .ref (q0 0)), (2, .ref (q1 0)), (3, .ref o), (4, .ref od), (5, .int i)] := hl
    refine lv_aload_n hx hb dL_law_918 rfl (lv_at hl 4 rfl) ?_
    refine cl_RI (k_X1_thrown l E q1 hq1 (hp.s17 (e_X0_virtualTime T C σ (xs (i + 1).toNatClampNeg))).1 (hp.s17 (e_X0_virtualTime T C σ (xs (i + 1).toNatClampNeg))).2.1 (sS σ 17 (e_X0_virtualTime T C σ (xs (i + 1).toNatClampNeg))) (hp.s17 (e_X0_virtualTime T C σ (xs (i + 1).toNatClampNeg))).2.2.1) gw_L_99 hd_X1_thrown ⟨rfl, rfl⟩ S0 hK hP1 (rest := []) rfl hl.1 (Nat.le_of_ble_eq_true rfl) ⟨(Nat.le_of_ble_eq_true rfl), (Nat.le_of_ble_eq_true rfl)⟩ hcs dL_law_919 (fun _ => ?_)
    rw [show f_X1_thrown T C (sS σ 17 (e_X0_virtualTime T C σ (xs (i + 1).toNatClampNeg))) = (e_X0_virtualTime T C σ (xs (i + 1).toNatClampNeg)) from rfl]
    refine lv_iload hx hb dL_law_922 (lv_at hl 1 rfl) ?_
    refine lv_icmp_eq (tgt := 929) hx hb dL_law_924 (by decide) (fun _ => ?_) (fun h => absurd rfl h)
    refine lv_iload hx hb dL_law_929 (lv_at hl 1 rfl) ?_
    refine lv_if_ne (tgt := 945) hx hb dL_law_931 (by decide) (fun _ => ?_) (fun h => absurd h he)
    refine lv_goto (tgt := 1609) hx hb dL_law_945 rfl ?_
    exact kk T C (sS σ 17 (e_X0_virtualTime T C σ (xs (i + 1).toNatClampNeg))) H2 locs2 (cells + 1) (slots + 6) ls (hp.s17 _) ⟨hP0, hP1, ⟨_, hO⟩, hOD, hS, by omega, by omega⟩ (lv_sub hl [2, 3, 4, 5, 6, 7] rfl)
set_option maxHeartbeats 1000000 in
theorem c_runTicks {p : Program} {l : Launch} {e : Env} {s : State} {m : MethodId} {args : Array Value} {below : List Frame} {meth : Method} {c : Code} {H : Heap} {locs : List Loc} {cells slots : Nat} {Q : State → Prop} {ls : Array Slot} {E : Ev} {dD : ClassId} {q0 q1 : Nat → Nat} {o od b L T C n : Nat} {xs : Nat → Int32} {i : Int32} {σ : St} (hst : l.stackTraces = false) (S0 : Fx p m c cL_law 9 s args RL) (K : LK E dD q0 q1 o od b L xs s) (hp : LPs T C n σ) (hh : LH E dD q0 q1 o od s n σ H locs cells slots) (hn : n < 512) (hl : lv_has ls 9 [(0, .ref b), (1, .ref (q0 0)), (2, .ref (q1 0)), (3, .ref o), (4, .ref od), (5, .int i)]) (hi1 : vp_in (i + 1) L) (hi2 : vp_in (i + 2) L) (hi3 : vp_in (i + 3) L)
    (hpl : (e_X0_runTicks T C σ (xs (i + 1).toNatClampNeg)) = 0 → True → ∃ T1 C1 : Nat, LPs T1 C1 (n + 1) (sS σ 17 0))
    (kk : ∀ (T1 C1 : Nat) (σ1 : St) (H1 : Heap) (locs1 : List Loc) (c1 s1 : Nat) (ls : Array Slot), LPs T1 C1 (n + 1) σ1 → LH E dD q0 q1 o od s (n + 1) σ1 H1 locs1 c1 s1 → lv_has ls 9 [(0, .ref b), (1, .ref (q0 0)), (2, .ref (q1 0)), (3, .ref o), (4, .ref od), (5, .int i)] → W p l e room_1 s m args below meth c H1 locs1 c1 s1 Q (F0 m 1609 ls [])) : W p l e room_1 s m args below meth c H locs cells slots Q (F0 m 948 ls []) := by
  obtain ⟨⟨hq0, hq1, hn0, hn1, hno, hnd⟩, ⟨h01, h0o, h1o, h0d, h1d, hod⟩, ⟨hX, hbl, hL⟩, hK, hKD, hXF, hNC⟩ := K
  obtain ⟨hP0, hP1, ⟨w0, hO⟩, hOD, hS, hcl, hsl⟩ := hh
  have hT := hp.1
  have hC := hp.2.1
  have hI := hp.2.2.1
  have hx := S0.1
  have hb := S0.2.1
  have hbA : ¬ An s b := Nat.not_le.mpr hbl
  refine lv_aload_n hx hb dL_law_948 rfl (lv_at hl 1 rfl) ?_
  refine lv_aload_n hx hb dL_law_949 rfl (lv_at hl 0 rfl) ?_
  refine lv_iload hx hb dL_law_950 (lv_at hl 5 rfl) ?_
  refine lv_iconst (v := 1) hx hb dL_law_952 (by decide) ?_
  refine lv_iadd hx hb dL_law_953 ?_
  refine va_sld hx hb hX hbl hbA hS hi1 dL_law_954 ?_
  refine lv_aload_n hx hb dL_law_955 rfl (lv_at hl 3 rfl) ?_
  by_cases he : (e_X0_runTicks T C σ (xs (i + 1).toNatClampNeg)) = 0
  · have he0 : e_X0_runTicks T C (sS σ 17 0) (xs (i + 1).toNatClampNeg) = 0 := he
    have hP00 : PP 0 E q0 (sS σ 17 0) H := hP0
    refine ch_N (h_runTicks l E q0 hq0 hT hC (sS σ 17 0) (inv_sS ⟨by decide, by decide⟩ hI) o h0o (xs (i + 1).toNatClampNeg) he0) (gw_H ml_L_147 st_L_runTicks ini_L cd_L_runTicks) hd_L_runTicks rfl ⟨rfl, rfl⟩ S0 hK hP00 hO hS (fun a h => h.elim (hn0 a) (fun e9 => by rw [e9]; exact hno)) (rest := []) rfl hl.1 (Nat.le_of_ble_eq_true rfl) ⟨(Nat.le_of_ble_eq_true rfl), (Nat.le_of_ble_eq_true rfl)⟩ ⟨by show _ ≤ 1067; omega, by show _ ≤ 8619; omega⟩ dL_law_956 (fun H1 locs1 hP0 hO hS hz hk hex => ?_)
    have hP1 := hP1.kept (H1 := H1) (fun a ha h => hk a ha (fun h9 => h9.elim (fun h8 => h01 a h8 h) (fun e9 => h1o (by rw [← e9]; exact h))))
    have hOD := hOD.kept (H1 := H1) (hk od hOD.lt (fun h9 => h9.elim h0d (fun e9 => hod e9.symm)))
    refine lv_istore hx hb dL_law_959 hl (by decide) rfl (fun ls hl => ?_)
    have hl : lv_has ls 9 [(6, .int 0), (0, .ref b), (1, .ref (q0 0)), (2, .ref (q1 0)), (3, .ref o), (4, .ref od), (5, .int i)] := hl
    refine lv_aload_n hx hb dL_law_961 rfl (lv_at hl 3 rfl) ?_
    refine lv_aload_n hx hb dL_law_962 rfl (lv_at hl 1 rfl) ?_
    refine lv_iload hx hb dL_law_963 (lv_at hl 6 rfl) ?_
    refine lv_iconst (v := 1) hx hb dL_law_965 (by decide) ?_
    refine lv_iadd hx hb dL_law_966 ?_
    refine va_sld hx hb hX hbl hbA hS hi1 dL_law_967 ?_
    have hcs : cells ≤ room_1.cells ∧ slots ≤ room_1.slots := ⟨by show _ ≤ 1067; omega, by show _ ≤ 8619; omega⟩
    refine gl_WI (A := An s) (k_X1_runTicks l E q1 hq1 hT hC σ hI (xs (i + 1).toNatClampNeg)) gw_L_149 hd_X1_runTicks ⟨rfl, rfl⟩ S0 hK hP1 hS (fun a h => hn1 a h) (rest := []) rfl hl.1 (Nat.le_of_ble_eq_true rfl) ⟨(Nat.le_of_ble_eq_true rfl), (Nat.le_of_ble_eq_true rfl)⟩ hcs dL_law_968 (fun H2 locs2 hP1 hS hz2 hk2 hex2 => ?_)
    obtain ⟨hg, hf, h17⟩ := (q_runTicks hT hC hI (xs (i + 1).toNatClampNeg)).1 he
    rw [hg] at hP1
    rw [hf]
    have hP0 := hP0.kept (H1 := H2) (fun a ha h => hk2 a ha (h01 a h))
    have hO := hO.kept (H1 := H2) (hk2 o hO.lt h1o)
    have hOD := hOD.kept (H1 := H2) (hk2 od hOD.lt h1d)
    refine lv_istore hx hb dL_law_971 hl (by decide) rfl (fun ls hl => ?_)
    have hl : lv_has ls 9 [(7, .int (f_X0_runTicks T C (sS σ 17 0) (xs (i + 1).toNatClampNeg))), (6, .int 0), (0, .ref b), (1, .ref (q0 0)), (2, .ref (q1 0)), (3, .ref o), (4, .ref od), (5, .int i)] := hl
    refine lv_aload_n hx hb dL_law_973 rfl (lv_at hl 4 rfl) ?_
    obtain ⟨T1, C1, hp1⟩ := hpl he hex
    refine cl_RI (k_X1_thrown l E q1 hq1 hp1.1 hp1.2.1 (sS σ 17 0) hp1.2.2.1) gw_L_99 hd_X1_thrown ⟨rfl, rfl⟩ S0 hK hP1 (rest := []) rfl hl.1 (Nat.le_of_ble_eq_true rfl) ⟨(Nat.le_of_ble_eq_true rfl), (Nat.le_of_ble_eq_true rfl)⟩ hcs dL_law_974 (fun _ => ?_)
    rw [show f_X1_thrown T1 C1 (sS σ 17 0) = 0 from h17]
    refine lv_iload hx hb dL_law_977 (lv_at hl 1 rfl) ?_
    refine lv_icmp_eq (tgt := 984) hx hb dL_law_979 (by decide) (fun _ => ?_) (fun h => absurd rfl h)
    refine lv_iload hx hb dL_law_984 (lv_at hl 1 rfl) ?_
    refine lv_if_ne (tgt := 1001) hx hb dL_law_986 (by decide) (fun h => absurd rfl h) (fun _ => ?_)
    obtain ⟨fo, hfo, hPO⟩ := hO
    refine lv_aload_n hx hb dL_law_989 rfl (lv_at hl 5 rfl) ?_
    refine lv_iconst (v := 0) hx hb dL_law_990 (by decide) ?_
    refine va_lald hx hb hK hPO 0 1 rfl rfl (by unfold vp_in; decide) dL_law_991 ?_
    rw [show fo (0 : Int32).toNatClampNeg = (Int32.toInt64 (f_X0_runTicks T C (sS σ 17 0) (xs (i + 1).toNatClampNeg))) from hfo]
    refine lv_iload hx hb dL_law_992 (lv_at hl 0 rfl) ?_
    refine lv_i2l (v := (Int32.toInt64 (f_X0_runTicks T C (sS σ 17 0) (xs (i + 1).toNatClampNeg)))) hx hb dL_law_994 rfl ?_
    refine W.lcmp hx hb dL_law_995 ?_
    rw [lgc]
    refine lv_if_eq (tgt := 1001) hx hb dL_law_996 (by decide) (fun _ => ?_) (fun h => absurd rfl h)
    refine lv_goto (tgt := 1609) hx hb dL_law_1001 rfl ?_
    exact kk T1 C1 (sS σ 17 0) H2 locs2 cells slots ls hp1 ⟨hP0, hP1, ⟨_, fo, hfo, hPO⟩, hOD, hS, by omega, by omega⟩ (lv_sub hl [2, 3, 4, 5, 6, 7] rfl)
  · refine ch_T (x_runTicks l hst E q0 hq0 hT hC σ hI o (xs (i + 1).toNatClampNeg) he) (gw_H ml_L_147 st_L_runTicks ini_L cd_L_runTicks) hd_L_runTicks rfl ⟨rfl, rfl⟩ S0 hK hP0 hXF hNC hS (rest := []) rfl hl.1 (Nat.le_of_ble_eq_true rfl) ⟨(Nat.le_of_ble_eq_true rfl), (Nat.le_of_ble_eq_true rfl)⟩ ⟨by show _ ≤ 1067; omega, by show _ ≤ 8619; omega⟩ dL_law_956 (fun H1 locs1 hS hz hk => ?_)
    have hP0 : PP 0 E q0 (sS σ 17 (e_X0_runTicks T C σ (xs (i + 1).toNatClampNeg))) H1 := hP0.kept (H1 := H1) (fun a ha _ => hk a ha)
    have hP1 := hP1.kept (H1 := H1) (fun a ha _ => hk a ha)
    have hO := hO.kept (H1 := H1) (hk o hO.lt)
    have hOD := hOD.kept (H1 := H1) (hk od hOD.lt)
    refine lv_istore hx hb dL_law_959 hl (by decide) rfl (fun ls hl => ?_)
    have hl : lv_has ls 9 [(6, .int (e_X0_runTicks T C σ (xs (i + 1).toNatClampNeg))), (0, .ref b), (1, .ref (q0 0)), (2, .ref (q1 0)), (3, .ref o), (4, .ref od), (5, .int i)] := hl
    refine lv_aload_n hx hb dL_law_961 rfl (lv_at hl 3 rfl) ?_
    refine lv_aload_n hx hb dL_law_962 rfl (lv_at hl 1 rfl) ?_
    refine lv_iload hx hb dL_law_963 (lv_at hl 6 rfl) ?_
    refine lv_iconst (v := 1) hx hb dL_law_965 (by decide) ?_
    refine lv_iadd hx hb dL_law_966 ?_
    refine va_sld hx hb hX hbl hbA hS hi1 dL_law_967 ?_
    have hcs : cells + 1 ≤ room_1.cells ∧ slots + 6 ≤ room_1.slots := ⟨by show _ ≤ 1067; omega, by show _ ≤ 8619; omega⟩
    refine gl_WI (A := An s) (k_X1_runTicks l E q1 hq1 hT hC σ hI (xs (i + 1).toNatClampNeg)) gw_L_149 hd_X1_runTicks ⟨rfl, rfl⟩ S0 hK hP1 hS (fun a h => hn1 a h) (rest := []) rfl hl.1 (Nat.le_of_ble_eq_true rfl) ⟨(Nat.le_of_ble_eq_true rfl), (Nat.le_of_ble_eq_true rfl)⟩ hcs dL_law_968 (fun H2 locs2 hP1 hS hz2 hk2 hex2 => ?_)
    have hg := (q_runTicks hT hC hI (xs (i + 1).toNatClampNeg)).2 he
    rw [hg] at hP1
    have hP0 := hP0.kept (H1 := H2) (fun a ha h => hk2 a ha (h01 a h))
    have hO := hO.kept (H1 := H2) (hk2 o hO.lt h1o)
    have hOD := hOD.kept (H1 := H2) (hk2 od hOD.lt h1d)
    refine lv_istore hx hb dL_law_971 hl (by decide) rfl (fun ls hl => ?_)
    have hl : lv_has ls 9 [(7, .int (f_X1_runTicks T C σ (xs (i + 1).toNatClampNeg))), (6, .int (e_X0_runTicks T C σ (xs (i + 1).toNatClampNeg))), (0, .ref b), (1, .ref (q0 0)), (2, .ref (q1 0)), (3, .ref o), (4, .ref od), (5, .int i)] := hl
    refine lv_aload_n hx hb dL_law_973 rfl (lv_at hl 4 rfl) ?_
    refine cl_RI (k_X1_thrown l E q1 hq1 (hp.s17 (e_X0_runTicks T C σ (xs (i + 1).toNatClampNeg))).1 (hp.s17 (e_X0_runTicks T C σ (xs (i + 1).toNatClampNeg))).2.1 (sS σ 17 (e_X0_runTicks T C σ (xs (i + 1).toNatClampNeg))) (hp.s17 (e_X0_runTicks T C σ (xs (i + 1).toNatClampNeg))).2.2.1) gw_L_99 hd_X1_thrown ⟨rfl, rfl⟩ S0 hK hP1 (rest := []) rfl hl.1 (Nat.le_of_ble_eq_true rfl) ⟨(Nat.le_of_ble_eq_true rfl), (Nat.le_of_ble_eq_true rfl)⟩ hcs dL_law_974 (fun _ => ?_)
    rw [show f_X1_thrown T C (sS σ 17 (e_X0_runTicks T C σ (xs (i + 1).toNatClampNeg))) = (e_X0_runTicks T C σ (xs (i + 1).toNatClampNeg)) from rfl]
    refine lv_iload hx hb dL_law_977 (lv_at hl 1 rfl) ?_
    refine lv_icmp_eq (tgt := 984) hx hb dL_law_979 (by decide) (fun _ => ?_) (fun h => absurd rfl h)
    refine lv_iload hx hb dL_law_984 (lv_at hl 1 rfl) ?_
    refine lv_if_ne (tgt := 1001) hx hb dL_law_986 (by decide) (fun _ => ?_) (fun h => absurd h he)
    refine lv_goto (tgt := 1609) hx hb dL_law_1001 rfl ?_
    exact kk T C (sS σ 17 (e_X0_runTicks T C σ (xs (i + 1).toNatClampNeg))) H2 locs2 (cells + 1) (slots + 6) ls (hp.s17 _) ⟨hP0, hP1, ⟨_, hO⟩, hOD, hS, by omega, by omega⟩ (lv_sub hl [2, 3, 4, 5, 6, 7] rfl)
set_option maxHeartbeats 1000000 in
theorem c_waitTicks {p : Program} {l : Launch} {e : Env} {s : State} {m : MethodId} {args : Array Value} {below : List Frame} {meth : Method} {c : Code} {H : Heap} {locs : List Loc} {cells slots : Nat} {Q : State → Prop} {ls : Array Slot} {E : Ev} {dD : ClassId} {q0 q1 : Nat → Nat} {o od b L T C n : Nat} {xs : Nat → Int32} {i : Int32} {σ : St} (hst : l.stackTraces = false) (S0 : Fx p m c cL_law 9 s args RL) (K : LK E dD q0 q1 o od b L xs s) (hp : LPs T C n σ) (hh : LH E dD q0 q1 o od s n σ H locs cells slots) (hn : n < 512) (hl : lv_has ls 9 [(0, .ref b), (1, .ref (q0 0)), (2, .ref (q1 0)), (3, .ref o), (4, .ref od), (5, .int i)]) (hi1 : vp_in (i + 1) L) (hi2 : vp_in (i + 2) L) (hi3 : vp_in (i + 3) L)
    (hpl : (e_X0_waitTicks T C σ (xs (i + 1).toNatClampNeg)) = 0 → True → ∃ T1 C1 : Nat, LPs T1 C1 (n + 1) (sS σ 17 0))
    (kk : ∀ (T1 C1 : Nat) (σ1 : St) (H1 : Heap) (locs1 : List Loc) (c1 s1 : Nat) (ls : Array Slot), LPs T1 C1 (n + 1) σ1 → LH E dD q0 q1 o od s (n + 1) σ1 H1 locs1 c1 s1 → lv_has ls 9 [(0, .ref b), (1, .ref (q0 0)), (2, .ref (q1 0)), (3, .ref o), (4, .ref od), (5, .int i)] → W p l e room_1 s m args below meth c H1 locs1 c1 s1 Q (F0 m 1609 ls [])) : W p l e room_1 s m args below meth c H locs cells slots Q (F0 m 1004 ls []) := by
  obtain ⟨⟨hq0, hq1, hn0, hn1, hno, hnd⟩, ⟨h01, h0o, h1o, h0d, h1d, hod⟩, ⟨hX, hbl, hL⟩, hK, hKD, hXF, hNC⟩ := K
  obtain ⟨hP0, hP1, ⟨w0, hO⟩, hOD, hS, hcl, hsl⟩ := hh
  have hT := hp.1
  have hC := hp.2.1
  have hI := hp.2.2.1
  have hx := S0.1
  have hb := S0.2.1
  have hbA : ¬ An s b := Nat.not_le.mpr hbl
  refine lv_aload_n hx hb dL_law_1004 rfl (lv_at hl 1 rfl) ?_
  refine lv_aload_n hx hb dL_law_1005 rfl (lv_at hl 0 rfl) ?_
  refine lv_iload hx hb dL_law_1006 (lv_at hl 5 rfl) ?_
  refine lv_iconst (v := 1) hx hb dL_law_1008 (by decide) ?_
  refine lv_iadd hx hb dL_law_1009 ?_
  refine va_sld hx hb hX hbl hbA hS hi1 dL_law_1010 ?_
  refine lv_aload_n hx hb dL_law_1011 rfl (lv_at hl 3 rfl) ?_
  by_cases he : (e_X0_waitTicks T C σ (xs (i + 1).toNatClampNeg)) = 0
  · have he0 : e_X0_waitTicks T C (sS σ 17 0) (xs (i + 1).toNatClampNeg) = 0 := he
    have hP00 : PP 0 E q0 (sS σ 17 0) H := hP0
    refine ch_N (h_waitTicks l E q0 hq0 hT hC (sS σ 17 0) (inv_sS ⟨by decide, by decide⟩ hI) o h0o (xs (i + 1).toNatClampNeg) he0) (gw_H ml_L_150 st_L_waitTicks ini_L cd_L_waitTicks) hd_L_waitTicks rfl ⟨rfl, rfl⟩ S0 hK hP00 hO hS (fun a h => h.elim (hn0 a) (fun e9 => by rw [e9]; exact hno)) (rest := []) rfl hl.1 (Nat.le_of_ble_eq_true rfl) ⟨(Nat.le_of_ble_eq_true rfl), (Nat.le_of_ble_eq_true rfl)⟩ ⟨by show _ ≤ 1067; omega, by show _ ≤ 8619; omega⟩ dL_law_1012 (fun H1 locs1 hP0 hO hS hz hk hex => ?_)
    have hP1 := hP1.kept (H1 := H1) (fun a ha h => hk a ha (fun h9 => h9.elim (fun h8 => h01 a h8 h) (fun e9 => h1o (by rw [← e9]; exact h))))
    have hOD := hOD.kept (H1 := H1) (hk od hOD.lt (fun h9 => h9.elim h0d (fun e9 => hod e9.symm)))
    refine lv_istore hx hb dL_law_1015 hl (by decide) rfl (fun ls hl => ?_)
    have hl : lv_has ls 9 [(6, .int 0), (0, .ref b), (1, .ref (q0 0)), (2, .ref (q1 0)), (3, .ref o), (4, .ref od), (5, .int i)] := hl
    refine lv_aload_n hx hb dL_law_1017 rfl (lv_at hl 3 rfl) ?_
    refine lv_aload_n hx hb dL_law_1018 rfl (lv_at hl 1 rfl) ?_
    refine lv_iload hx hb dL_law_1019 (lv_at hl 6 rfl) ?_
    refine lv_iconst (v := 1) hx hb dL_law_1021 (by decide) ?_
    refine lv_iadd hx hb dL_law_1022 ?_
    refine va_sld hx hb hX hbl hbA hS hi1 dL_law_1023 ?_
    have hcs : cells ≤ room_1.cells ∧ slots ≤ room_1.slots := ⟨by show _ ≤ 1067; omega, by show _ ≤ 8619; omega⟩
    refine gl_WI (A := An s) (k_X1_waitTicks l E q1 hq1 hT hC σ hI (xs (i + 1).toNatClampNeg)) gw_L_152 hd_X1_waitTicks ⟨rfl, rfl⟩ S0 hK hP1 hS (fun a h => hn1 a h) (rest := []) rfl hl.1 (Nat.le_of_ble_eq_true rfl) ⟨(Nat.le_of_ble_eq_true rfl), (Nat.le_of_ble_eq_true rfl)⟩ hcs dL_law_1024 (fun H2 locs2 hP1 hS hz2 hk2 hex2 => ?_)
    obtain ⟨hg, hf, h17⟩ := (q_waitTicks hT hC hI (xs (i + 1).toNatClampNeg)).1 he
    rw [hg] at hP1
    rw [hf]
    have hP0 := hP0.kept (H1 := H2) (fun a ha h => hk2 a ha (h01 a h))
    have hO := hO.kept (H1 := H2) (hk2 o hO.lt h1o)
    have hOD := hOD.kept (H1 := H2) (hk2 od hOD.lt h1d)
    refine lv_istore hx hb dL_law_1027 hl (by decide) rfl (fun ls hl => ?_)
    have hl : lv_has ls 9 [(7, .int (f_X0_waitTicks T C (sS σ 17 0) (xs (i + 1).toNatClampNeg))), (6, .int 0), (0, .ref b), (1, .ref (q0 0)), (2, .ref (q1 0)), (3, .ref o), (4, .ref od), (5, .int i)] := hl
    refine lv_aload_n hx hb dL_law_1029 rfl (lv_at hl 4 rfl) ?_
    obtain ⟨T1, C1, hp1⟩ := hpl he hex
    refine cl_RI (k_X1_thrown l E q1 hq1 hp1.1 hp1.2.1 (sS σ 17 0) hp1.2.2.1) gw_L_99 hd_X1_thrown ⟨rfl, rfl⟩ S0 hK hP1 (rest := []) rfl hl.1 (Nat.le_of_ble_eq_true rfl) ⟨(Nat.le_of_ble_eq_true rfl), (Nat.le_of_ble_eq_true rfl)⟩ hcs dL_law_1030 (fun _ => ?_)
    rw [show f_X1_thrown T1 C1 (sS σ 17 0) = 0 from h17]
    refine lv_iload hx hb dL_law_1033 (lv_at hl 1 rfl) ?_
    refine lv_icmp_eq (tgt := 1040) hx hb dL_law_1035 (by decide) (fun _ => ?_) (fun h => absurd rfl h)
    refine lv_iload hx hb dL_law_1040 (lv_at hl 1 rfl) ?_
    refine lv_if_ne (tgt := 1057) hx hb dL_law_1042 (by decide) (fun h => absurd rfl h) (fun _ => ?_)
    obtain ⟨fo, hfo, hPO⟩ := hO
    refine lv_aload_n hx hb dL_law_1045 rfl (lv_at hl 5 rfl) ?_
    refine lv_iconst (v := 0) hx hb dL_law_1046 (by decide) ?_
    refine va_lald hx hb hK hPO 0 1 rfl rfl (by unfold vp_in; decide) dL_law_1047 ?_
    rw [show fo (0 : Int32).toNatClampNeg = (Int32.toInt64 (f_X0_waitTicks T C (sS σ 17 0) (xs (i + 1).toNatClampNeg))) from hfo]
    refine lv_iload hx hb dL_law_1048 (lv_at hl 0 rfl) ?_
    refine lv_i2l (v := (Int32.toInt64 (f_X0_waitTicks T C (sS σ 17 0) (xs (i + 1).toNatClampNeg)))) hx hb dL_law_1050 rfl ?_
    refine W.lcmp hx hb dL_law_1051 ?_
    rw [lgc]
    refine lv_if_eq (tgt := 1057) hx hb dL_law_1052 (by decide) (fun _ => ?_) (fun h => absurd rfl h)
    refine lv_goto (tgt := 1609) hx hb dL_law_1057 rfl ?_
    exact kk T1 C1 (sS σ 17 0) H2 locs2 cells slots ls hp1 ⟨hP0, hP1, ⟨_, fo, hfo, hPO⟩, hOD, hS, by omega, by omega⟩ (lv_sub hl [2, 3, 4, 5, 6, 7] rfl)
  · refine ch_T (x_waitTicks l hst E q0 hq0 hT hC σ hI o (xs (i + 1).toNatClampNeg) he) (gw_H ml_L_150 st_L_waitTicks ini_L cd_L_waitTicks) hd_L_waitTicks rfl ⟨rfl, rfl⟩ S0 hK hP0 hXF hNC hS (rest := []) rfl hl.1 (Nat.le_of_ble_eq_true rfl) ⟨(Nat.le_of_ble_eq_true rfl), (Nat.le_of_ble_eq_true rfl)⟩ ⟨by show _ ≤ 1067; omega, by show _ ≤ 8619; omega⟩ dL_law_1012 (fun H1 locs1 hS hz hk => ?_)
    have hP0 : PP 0 E q0 (sS σ 17 (e_X0_waitTicks T C σ (xs (i + 1).toNatClampNeg))) H1 := hP0.kept (H1 := H1) (fun a ha _ => hk a ha)
    have hP1 := hP1.kept (H1 := H1) (fun a ha _ => hk a ha)
    have hO := hO.kept (H1 := H1) (hk o hO.lt)
    have hOD := hOD.kept (H1 := H1) (hk od hOD.lt)
    refine lv_istore hx hb dL_law_1015 hl (by decide) rfl (fun ls hl => ?_)
    have hl : lv_has ls 9 [(6, .int (e_X0_waitTicks T C σ (xs (i + 1).toNatClampNeg))), (0, .ref b), (1, .ref (q0 0)), (2, .ref (q1 0)), (3, .ref o), (4, .ref od), (5, .int i)] := hl
    refine lv_aload_n hx hb dL_law_1017 rfl (lv_at hl 3 rfl) ?_
    refine lv_aload_n hx hb dL_law_1018 rfl (lv_at hl 1 rfl) ?_
    refine lv_iload hx hb dL_law_1019 (lv_at hl 6 rfl) ?_
    refine lv_iconst (v := 1) hx hb dL_law_1021 (by decide) ?_
    refine lv_iadd hx hb dL_law_1022 ?_
    refine va_sld hx hb hX hbl hbA hS hi1 dL_law_1023 ?_
    have hcs : cells + 1 ≤ room_1.cells ∧ slots + 6 ≤ room_1.slots := ⟨by show _ ≤ 1067; omega, by show _ ≤ 8619; omega⟩
    refine gl_WI (A := An s) (k_X1_waitTicks l E q1 hq1 hT hC σ hI (xs (i + 1).toNatClampNeg)) gw_L_152 hd_X1_waitTicks ⟨rfl, rfl⟩ S0 hK hP1 hS (fun a h => hn1 a h) (rest := []) rfl hl.1 (Nat.le_of_ble_eq_true rfl) ⟨(Nat.le_of_ble_eq_true rfl), (Nat.le_of_ble_eq_true rfl)⟩ hcs dL_law_1024 (fun H2 locs2 hP1 hS hz2 hk2 hex2 => ?_)
    have hg := (q_waitTicks hT hC hI (xs (i + 1).toNatClampNeg)).2 he
    rw [hg] at hP1
    have hP0 := hP0.kept (H1 := H2) (fun a ha h => hk2 a ha (h01 a h))
    have hO := hO.kept (H1 := H2) (hk2 o hO.lt h1o)
    have hOD := hOD.kept (H1 := H2) (hk2 od hOD.lt h1d)
    refine lv_istore hx hb dL_law_1027 hl (by decide) rfl (fun ls hl => ?_)
    have hl : lv_has ls 9 [(7, .int (f_X1_waitTicks T C σ (xs (i + 1).toNatClampNeg))), (6, .int (e_X0_waitTicks T C σ (xs (i + 1).toNatClampNeg))), (0, .ref b), (1, .ref (q0 0)), (2, .ref (q1 0)), (3, .ref o), (4, .ref od), (5, .int i)] := hl
    refine lv_aload_n hx hb dL_law_1029 rfl (lv_at hl 4 rfl) ?_
    refine cl_RI (k_X1_thrown l E q1 hq1 (hp.s17 (e_X0_waitTicks T C σ (xs (i + 1).toNatClampNeg))).1 (hp.s17 (e_X0_waitTicks T C σ (xs (i + 1).toNatClampNeg))).2.1 (sS σ 17 (e_X0_waitTicks T C σ (xs (i + 1).toNatClampNeg))) (hp.s17 (e_X0_waitTicks T C σ (xs (i + 1).toNatClampNeg))).2.2.1) gw_L_99 hd_X1_thrown ⟨rfl, rfl⟩ S0 hK hP1 (rest := []) rfl hl.1 (Nat.le_of_ble_eq_true rfl) ⟨(Nat.le_of_ble_eq_true rfl), (Nat.le_of_ble_eq_true rfl)⟩ hcs dL_law_1030 (fun _ => ?_)
    rw [show f_X1_thrown T C (sS σ 17 (e_X0_waitTicks T C σ (xs (i + 1).toNatClampNeg))) = (e_X0_waitTicks T C σ (xs (i + 1).toNatClampNeg)) from rfl]
    refine lv_iload hx hb dL_law_1033 (lv_at hl 1 rfl) ?_
    refine lv_icmp_eq (tgt := 1040) hx hb dL_law_1035 (by decide) (fun _ => ?_) (fun h => absurd rfl h)
    refine lv_iload hx hb dL_law_1040 (lv_at hl 1 rfl) ?_
    refine lv_if_ne (tgt := 1057) hx hb dL_law_1042 (by decide) (fun _ => ?_) (fun h => absurd h he)
    refine lv_goto (tgt := 1609) hx hb dL_law_1057 rfl ?_
    exact kk T C (sS σ 17 (e_X0_waitTicks T C σ (xs (i + 1).toNatClampNeg))) H2 locs2 (cells + 1) (slots + 6) ls (hp.s17 _) ⟨hP0, hP1, ⟨_, hO⟩, hOD, hS, by omega, by omega⟩ (lv_sub hl [2, 3, 4, 5, 6, 7] rfl)
set_option maxHeartbeats 1000000 in
theorem c_runningTask {p : Program} {l : Launch} {e : Env} {s : State} {m : MethodId} {args : Array Value} {below : List Frame} {meth : Method} {c : Code} {H : Heap} {locs : List Loc} {cells slots : Nat} {Q : State → Prop} {ls : Array Slot} {E : Ev} {dD : ClassId} {q0 q1 : Nat → Nat} {o od b L T C n : Nat} {xs : Nat → Int32} {i : Int32} {σ : St} (hst : l.stackTraces = false) (S0 : Fx p m c cL_law 9 s args RL) (K : LK E dD q0 q1 o od b L xs s) (hp : LPs T C n σ) (hh : LH E dD q0 q1 o od s n σ H locs cells slots) (hn : n < 512) (hl : lv_has ls 9 [(0, .ref b), (1, .ref (q0 0)), (2, .ref (q1 0)), (3, .ref o), (4, .ref od), (5, .int i)]) (hi1 : vp_in (i + 1) L) (hi2 : vp_in (i + 2) L) (hi3 : vp_in (i + 3) L)
    (hpl : (e_X0_runningTask T C σ (xs (i + 1).toNatClampNeg)) = 0 → True → ∃ T1 C1 : Nat, LPs T1 C1 (n + 1) (sS σ 17 0))
    (kk : ∀ (T1 C1 : Nat) (σ1 : St) (H1 : Heap) (locs1 : List Loc) (c1 s1 : Nat) (ls : Array Slot), LPs T1 C1 (n + 1) σ1 → LH E dD q0 q1 o od s (n + 1) σ1 H1 locs1 c1 s1 → lv_has ls 9 [(0, .ref b), (1, .ref (q0 0)), (2, .ref (q1 0)), (3, .ref o), (4, .ref od), (5, .int i)] → W p l e room_1 s m args below meth c H1 locs1 c1 s1 Q (F0 m 1609 ls [])) : W p l e room_1 s m args below meth c H locs cells slots Q (F0 m 1137 ls []) := by
  obtain ⟨⟨hq0, hq1, hn0, hn1, hno, hnd⟩, ⟨h01, h0o, h1o, h0d, h1d, hod⟩, ⟨hX, hbl, hL⟩, hK, hKD, hXF, hNC⟩ := K
  obtain ⟨hP0, hP1, ⟨w0, hO⟩, hOD, hS, hcl, hsl⟩ := hh
  have hT := hp.1
  have hC := hp.2.1
  have hI := hp.2.2.1
  have hx := S0.1
  have hb := S0.2.1
  have hbA : ¬ An s b := Nat.not_le.mpr hbl
  refine lv_aload_n hx hb dL_law_1137 rfl (lv_at hl 1 rfl) ?_
  refine lv_aload_n hx hb dL_law_1138 rfl (lv_at hl 0 rfl) ?_
  refine lv_iload hx hb dL_law_1139 (lv_at hl 5 rfl) ?_
  refine lv_iconst (v := 1) hx hb dL_law_1141 (by decide) ?_
  refine lv_iadd hx hb dL_law_1142 ?_
  refine va_sld hx hb hX hbl hbA hS hi1 dL_law_1143 ?_
  refine lv_aload_n hx hb dL_law_1144 rfl (lv_at hl 3 rfl) ?_
  by_cases he : (e_X0_runningTask T C σ (xs (i + 1).toNatClampNeg)) = 0
  · have he0 : e_X0_runningTask T C (sS σ 17 0) (xs (i + 1).toNatClampNeg) = 0 := he
    have hP00 : PP 0 E q0 (sS σ 17 0) H := hP0
    refine ch_N (h_runningTask l E q0 hq0 hT hC (sS σ 17 0) (inv_sS ⟨by decide, by decide⟩ hI) o h0o (xs (i + 1).toNatClampNeg) he0) (gw_H ml_L_157 st_L_runningTask ini_L cd_L_runningTask) hd_L_runningTask rfl ⟨rfl, rfl⟩ S0 hK hP00 hO hS (fun a h => h.elim (hn0 a) (fun e9 => by rw [e9]; exact hno)) (rest := []) rfl hl.1 (Nat.le_of_ble_eq_true rfl) ⟨(Nat.le_of_ble_eq_true rfl), (Nat.le_of_ble_eq_true rfl)⟩ ⟨by show _ ≤ 1067; omega, by show _ ≤ 8619; omega⟩ dL_law_1145 (fun H1 locs1 hP0 hO hS hz hk hex => ?_)
    have hP1 := hP1.kept (H1 := H1) (fun a ha h => hk a ha (fun h9 => h9.elim (fun h8 => h01 a h8 h) (fun e9 => h1o (by rw [← e9]; exact h))))
    have hOD := hOD.kept (H1 := H1) (hk od hOD.lt (fun h9 => h9.elim h0d (fun e9 => hod e9.symm)))
    refine lv_istore hx hb dL_law_1148 hl (by decide) rfl (fun ls hl => ?_)
    have hl : lv_has ls 9 [(6, .int 0), (0, .ref b), (1, .ref (q0 0)), (2, .ref (q1 0)), (3, .ref o), (4, .ref od), (5, .int i)] := hl
    refine lv_aload_n hx hb dL_law_1150 rfl (lv_at hl 3 rfl) ?_
    refine lv_aload_n hx hb dL_law_1151 rfl (lv_at hl 1 rfl) ?_
    refine lv_iload hx hb dL_law_1152 (lv_at hl 6 rfl) ?_
    refine lv_iconst (v := 1) hx hb dL_law_1154 (by decide) ?_
    refine lv_iadd hx hb dL_law_1155 ?_
    refine va_sld hx hb hX hbl hbA hS hi1 dL_law_1156 ?_
    have hcs : cells ≤ room_1.cells ∧ slots ≤ room_1.slots := ⟨by show _ ≤ 1067; omega, by show _ ≤ 8619; omega⟩
    refine gl_WI (A := An s) (k_X1_runningTask l E q1 hq1 hT hC σ hI (xs (i + 1).toNatClampNeg)) gw_L_159 hd_X1_runningTask ⟨rfl, rfl⟩ S0 hK hP1 hS (fun a h => hn1 a h) (rest := []) rfl hl.1 (Nat.le_of_ble_eq_true rfl) ⟨(Nat.le_of_ble_eq_true rfl), (Nat.le_of_ble_eq_true rfl)⟩ hcs dL_law_1157 (fun H2 locs2 hP1 hS hz2 hk2 hex2 => ?_)
    obtain ⟨hg, hf, h17⟩ := (q_runningTask hT hC hI (xs (i + 1).toNatClampNeg)).1 he
    rw [hg] at hP1
    rw [hf]
    have hP0 := hP0.kept (H1 := H2) (fun a ha h => hk2 a ha (h01 a h))
    have hO := hO.kept (H1 := H2) (hk2 o hO.lt h1o)
    have hOD := hOD.kept (H1 := H2) (hk2 od hOD.lt h1d)
    refine lv_istore hx hb dL_law_1160 hl (by decide) rfl (fun ls hl => ?_)
    have hl : lv_has ls 9 [(7, .int (f_X0_runningTask T C (sS σ 17 0) (xs (i + 1).toNatClampNeg))), (6, .int 0), (0, .ref b), (1, .ref (q0 0)), (2, .ref (q1 0)), (3, .ref o), (4, .ref od), (5, .int i)] := hl
    refine lv_aload_n hx hb dL_law_1162 rfl (lv_at hl 4 rfl) ?_
    obtain ⟨T1, C1, hp1⟩ := hpl he hex
    refine cl_RI (k_X1_thrown l E q1 hq1 hp1.1 hp1.2.1 (sS σ 17 0) hp1.2.2.1) gw_L_99 hd_X1_thrown ⟨rfl, rfl⟩ S0 hK hP1 (rest := []) rfl hl.1 (Nat.le_of_ble_eq_true rfl) ⟨(Nat.le_of_ble_eq_true rfl), (Nat.le_of_ble_eq_true rfl)⟩ hcs dL_law_1163 (fun _ => ?_)
    rw [show f_X1_thrown T1 C1 (sS σ 17 0) = 0 from h17]
    refine lv_iload hx hb dL_law_1166 (lv_at hl 1 rfl) ?_
    refine lv_icmp_eq (tgt := 1173) hx hb dL_law_1168 (by decide) (fun _ => ?_) (fun h => absurd rfl h)
    refine lv_iload hx hb dL_law_1173 (lv_at hl 1 rfl) ?_
    refine lv_if_ne (tgt := 1190) hx hb dL_law_1175 (by decide) (fun h => absurd rfl h) (fun _ => ?_)
    obtain ⟨fo, hfo, hPO⟩ := hO
    refine lv_aload_n hx hb dL_law_1178 rfl (lv_at hl 5 rfl) ?_
    refine lv_iconst (v := 0) hx hb dL_law_1179 (by decide) ?_
    refine va_lald hx hb hK hPO 0 1 rfl rfl (by unfold vp_in; decide) dL_law_1180 ?_
    rw [show fo (0 : Int32).toNatClampNeg = (Int32.toInt64 (f_X0_runningTask T C (sS σ 17 0) (xs (i + 1).toNatClampNeg))) from hfo]
    refine lv_iload hx hb dL_law_1181 (lv_at hl 0 rfl) ?_
    refine lv_i2l (v := (Int32.toInt64 (f_X0_runningTask T C (sS σ 17 0) (xs (i + 1).toNatClampNeg)))) hx hb dL_law_1183 rfl ?_
    refine W.lcmp hx hb dL_law_1184 ?_
    rw [lgc]
    refine lv_if_eq (tgt := 1190) hx hb dL_law_1185 (by decide) (fun _ => ?_) (fun h => absurd rfl h)
    refine lv_goto (tgt := 1609) hx hb dL_law_1190 rfl ?_
    exact kk T1 C1 (sS σ 17 0) H2 locs2 cells slots ls hp1 ⟨hP0, hP1, ⟨_, fo, hfo, hPO⟩, hOD, hS, by omega, by omega⟩ (lv_sub hl [2, 3, 4, 5, 6, 7] rfl)
  · refine ch_T (x_runningTask l hst E q0 hq0 hT hC σ hI o (xs (i + 1).toNatClampNeg) he) (gw_H ml_L_157 st_L_runningTask ini_L cd_L_runningTask) hd_L_runningTask rfl ⟨rfl, rfl⟩ S0 hK hP0 hXF hNC hS (rest := []) rfl hl.1 (Nat.le_of_ble_eq_true rfl) ⟨(Nat.le_of_ble_eq_true rfl), (Nat.le_of_ble_eq_true rfl)⟩ ⟨by show _ ≤ 1067; omega, by show _ ≤ 8619; omega⟩ dL_law_1145 (fun H1 locs1 hS hz hk => ?_)
    have hP0 : PP 0 E q0 (sS σ 17 (e_X0_runningTask T C σ (xs (i + 1).toNatClampNeg))) H1 := hP0.kept (H1 := H1) (fun a ha _ => hk a ha)
    have hP1 := hP1.kept (H1 := H1) (fun a ha _ => hk a ha)
    have hO := hO.kept (H1 := H1) (hk o hO.lt)
    have hOD := hOD.kept (H1 := H1) (hk od hOD.lt)
    refine lv_istore hx hb dL_law_1148 hl (by decide) rfl (fun ls hl => ?_)
    have hl : lv_has ls 9 [(6, .int (e_X0_runningTask T C σ (xs (i + 1).toNatClampNeg))), (0, .ref b), (1, .ref (q0 0)), (2, .ref (q1 0)), (3, .ref o), (4, .ref od), (5, .int i)] := hl
    refine lv_aload_n hx hb dL_law_1150 rfl (lv_at hl 3 rfl) ?_
    refine lv_aload_n hx hb dL_law_1151 rfl (lv_at hl 1 rfl) ?_
    refine lv_iload hx hb dL_law_1152 (lv_at hl 6 rfl) ?_
    refine lv_iconst (v := 1) hx hb dL_law_1154 (by decide) ?_
    refine lv_iadd hx hb dL_law_1155 ?_
    refine va_sld hx hb hX hbl hbA hS hi1 dL_law_1156 ?_
    have hcs : cells + 1 ≤ room_1.cells ∧ slots + 6 ≤ room_1.slots := ⟨by show _ ≤ 1067; omega, by show _ ≤ 8619; omega⟩
    refine gl_WI (A := An s) (k_X1_runningTask l E q1 hq1 hT hC σ hI (xs (i + 1).toNatClampNeg)) gw_L_159 hd_X1_runningTask ⟨rfl, rfl⟩ S0 hK hP1 hS (fun a h => hn1 a h) (rest := []) rfl hl.1 (Nat.le_of_ble_eq_true rfl) ⟨(Nat.le_of_ble_eq_true rfl), (Nat.le_of_ble_eq_true rfl)⟩ hcs dL_law_1157 (fun H2 locs2 hP1 hS hz2 hk2 hex2 => ?_)
    have hg := (q_runningTask hT hC hI (xs (i + 1).toNatClampNeg)).2 he
    rw [hg] at hP1
    have hP0 := hP0.kept (H1 := H2) (fun a ha h => hk2 a ha (h01 a h))
    have hO := hO.kept (H1 := H2) (hk2 o hO.lt h1o)
    have hOD := hOD.kept (H1 := H2) (hk2 od hOD.lt h1d)
    refine lv_istore hx hb dL_law_1160 hl (by decide) rfl (fun ls hl => ?_)
    have hl : lv_has ls 9 [(7, .int (f_X1_runningTask T C σ (xs (i + 1).toNatClampNeg))), (6, .int (e_X0_runningTask T C σ (xs (i + 1).toNatClampNeg))), (0, .ref b), (1, .ref (q0 0)), (2, .ref (q1 0)), (3, .ref o), (4, .ref od), (5, .int i)] := hl
    refine lv_aload_n hx hb dL_law_1162 rfl (lv_at hl 4 rfl) ?_
    refine cl_RI (k_X1_thrown l E q1 hq1 (hp.s17 (e_X0_runningTask T C σ (xs (i + 1).toNatClampNeg))).1 (hp.s17 (e_X0_runningTask T C σ (xs (i + 1).toNatClampNeg))).2.1 (sS σ 17 (e_X0_runningTask T C σ (xs (i + 1).toNatClampNeg))) (hp.s17 (e_X0_runningTask T C σ (xs (i + 1).toNatClampNeg))).2.2.1) gw_L_99 hd_X1_thrown ⟨rfl, rfl⟩ S0 hK hP1 (rest := []) rfl hl.1 (Nat.le_of_ble_eq_true rfl) ⟨(Nat.le_of_ble_eq_true rfl), (Nat.le_of_ble_eq_true rfl)⟩ hcs dL_law_1163 (fun _ => ?_)
    rw [show f_X1_thrown T C (sS σ 17 (e_X0_runningTask T C σ (xs (i + 1).toNatClampNeg))) = (e_X0_runningTask T C σ (xs (i + 1).toNatClampNeg)) from rfl]
    refine lv_iload hx hb dL_law_1166 (lv_at hl 1 rfl) ?_
    refine lv_icmp_eq (tgt := 1173) hx hb dL_law_1168 (by decide) (fun _ => ?_) (fun h => absurd rfl h)
    refine lv_iload hx hb dL_law_1173 (lv_at hl 1 rfl) ?_
    refine lv_if_ne (tgt := 1190) hx hb dL_law_1175 (by decide) (fun _ => ?_) (fun h => absurd h he)
    refine lv_goto (tgt := 1609) hx hb dL_law_1190 rfl ?_
    exact kk T C (sS σ 17 (e_X0_runningTask T C σ (xs (i + 1).toNatClampNeg))) H2 locs2 (cells + 1) (slots + 6) ls (hp.s17 _) ⟨hP0, hP1, ⟨_, hO⟩, hOD, hS, by omega, by omega⟩ (lv_sub hl [2, 3, 4, 5, 6, 7] rfl)
set_option maxHeartbeats 1000000 in
theorem c_coreCookie {p : Program} {l : Launch} {e : Env} {s : State} {m : MethodId} {args : Array Value} {below : List Frame} {meth : Method} {c : Code} {H : Heap} {locs : List Loc} {cells slots : Nat} {Q : State → Prop} {ls : Array Slot} {E : Ev} {dD : ClassId} {q0 q1 : Nat → Nat} {o od b L T C n : Nat} {xs : Nat → Int32} {i : Int32} {σ : St} (hst : l.stackTraces = false) (S0 : Fx p m c cL_law 9 s args RL) (K : LK E dD q0 q1 o od b L xs s) (hp : LPs T C n σ) (hh : LH E dD q0 q1 o od s n σ H locs cells slots) (hn : n < 512) (hl : lv_has ls 9 [(0, .ref b), (1, .ref (q0 0)), (2, .ref (q1 0)), (3, .ref o), (4, .ref od), (5, .int i)]) (hi1 : vp_in (i + 1) L) (hi2 : vp_in (i + 2) L) (hi3 : vp_in (i + 3) L)
    (hpl : (e_X0_coreCookie T C σ (xs (i + 1).toNatClampNeg)) = 0 → True → ∃ T1 C1 : Nat, LPs T1 C1 (n + 1) (sS σ 17 0))
    (kk : ∀ (T1 C1 : Nat) (σ1 : St) (H1 : Heap) (locs1 : List Loc) (c1 s1 : Nat) (ls : Array Slot), LPs T1 C1 (n + 1) σ1 → LH E dD q0 q1 o od s (n + 1) σ1 H1 locs1 c1 s1 → lv_has ls 9 [(0, .ref b), (1, .ref (q0 0)), (2, .ref (q1 0)), (3, .ref o), (4, .ref od), (5, .int i)] → W p l e room_1 s m args below meth c H1 locs1 c1 s1 Q (F0 m 1609 ls [])) : W p l e room_1 s m args below meth c H locs cells slots Q (F0 m 1193 ls []) := by
  obtain ⟨⟨hq0, hq1, hn0, hn1, hno, hnd⟩, ⟨h01, h0o, h1o, h0d, h1d, hod⟩, ⟨hX, hbl, hL⟩, hK, hKD, hXF, hNC⟩ := K
  obtain ⟨hP0, hP1, ⟨w0, hO⟩, hOD, hS, hcl, hsl⟩ := hh
  have hT := hp.1
  have hC := hp.2.1
  have hI := hp.2.2.1
  have hx := S0.1
  have hb := S0.2.1
  have hbA : ¬ An s b := Nat.not_le.mpr hbl
  refine lv_aload_n hx hb dL_law_1193 rfl (lv_at hl 1 rfl) ?_
  refine lv_aload_n hx hb dL_law_1194 rfl (lv_at hl 0 rfl) ?_
  refine lv_iload hx hb dL_law_1195 (lv_at hl 5 rfl) ?_
  refine lv_iconst (v := 1) hx hb dL_law_1197 (by decide) ?_
  refine lv_iadd hx hb dL_law_1198 ?_
  refine va_sld hx hb hX hbl hbA hS hi1 dL_law_1199 ?_
  refine lv_aload_n hx hb dL_law_1200 rfl (lv_at hl 3 rfl) ?_
  by_cases he : (e_X0_coreCookie T C σ (xs (i + 1).toNatClampNeg)) = 0
  · have he0 : e_X0_coreCookie T C (sS σ 17 0) (xs (i + 1).toNatClampNeg) = 0 := he
    have hP00 : PP 0 E q0 (sS σ 17 0) H := hP0
    refine ch_N (h_coreCookie l E q0 hq0 hT hC (sS σ 17 0) (inv_sS ⟨by decide, by decide⟩ hI) o h0o (xs (i + 1).toNatClampNeg) he0) (gw_H ml_L_160 st_L_coreCookie ini_L cd_L_coreCookie) hd_L_coreCookie rfl ⟨rfl, rfl⟩ S0 hK hP00 hO hS (fun a h => h.elim (hn0 a) (fun e9 => by rw [e9]; exact hno)) (rest := []) rfl hl.1 (Nat.le_of_ble_eq_true rfl) ⟨(Nat.le_of_ble_eq_true rfl), (Nat.le_of_ble_eq_true rfl)⟩ ⟨by show _ ≤ 1067; omega, by show _ ≤ 8619; omega⟩ dL_law_1201 (fun H1 locs1 hP0 hO hS hz hk hex => ?_)
    have hP1 := hP1.kept (H1 := H1) (fun a ha h => hk a ha (fun h9 => h9.elim (fun h8 => h01 a h8 h) (fun e9 => h1o (by rw [← e9]; exact h))))
    have hOD := hOD.kept (H1 := H1) (hk od hOD.lt (fun h9 => h9.elim h0d (fun e9 => hod e9.symm)))
    refine lv_istore hx hb dL_law_1204 hl (by decide) rfl (fun ls hl => ?_)
    have hl : lv_has ls 9 [(6, .int 0), (0, .ref b), (1, .ref (q0 0)), (2, .ref (q1 0)), (3, .ref o), (4, .ref od), (5, .int i)] := hl
    refine lv_aload_n hx hb dL_law_1206 rfl (lv_at hl 3 rfl) ?_
    refine lv_aload_n hx hb dL_law_1207 rfl (lv_at hl 1 rfl) ?_
    refine lv_iload hx hb dL_law_1208 (lv_at hl 6 rfl) ?_
    refine lv_iconst (v := 1) hx hb dL_law_1210 (by decide) ?_
    refine lv_iadd hx hb dL_law_1211 ?_
    refine va_sld hx hb hX hbl hbA hS hi1 dL_law_1212 ?_
    have hcs : cells ≤ room_1.cells ∧ slots ≤ room_1.slots := ⟨by show _ ≤ 1067; omega, by show _ ≤ 8619; omega⟩
    refine gl_WI (A := An s) (k_X1_coreCookie l E q1 hq1 hT hC σ hI (xs (i + 1).toNatClampNeg)) gw_L_162 hd_X1_coreCookie ⟨rfl, rfl⟩ S0 hK hP1 hS (fun a h => hn1 a h) (rest := []) rfl hl.1 (Nat.le_of_ble_eq_true rfl) ⟨(Nat.le_of_ble_eq_true rfl), (Nat.le_of_ble_eq_true rfl)⟩ hcs dL_law_1213 (fun H2 locs2 hP1 hS hz2 hk2 hex2 => ?_)
    obtain ⟨hg, hf, h17⟩ := (q_coreCookie hT hC hI (xs (i + 1).toNatClampNeg)).1 he
    rw [hg] at hP1
    rw [hf]
    have hP0 := hP0.kept (H1 := H2) (fun a ha h => hk2 a ha (h01 a h))
    have hO := hO.kept (H1 := H2) (hk2 o hO.lt h1o)
    have hOD := hOD.kept (H1 := H2) (hk2 od hOD.lt h1d)
    refine lv_istore hx hb dL_law_1216 hl (by decide) rfl (fun ls hl => ?_)
    have hl : lv_has ls 9 [(7, .int (f_X0_coreCookie T C (sS σ 17 0) (xs (i + 1).toNatClampNeg))), (6, .int 0), (0, .ref b), (1, .ref (q0 0)), (2, .ref (q1 0)), (3, .ref o), (4, .ref od), (5, .int i)] := hl
    refine lv_aload_n hx hb dL_law_1218 rfl (lv_at hl 4 rfl) ?_
    obtain ⟨T1, C1, hp1⟩ := hpl he hex
    refine cl_RI (k_X1_thrown l E q1 hq1 hp1.1 hp1.2.1 (sS σ 17 0) hp1.2.2.1) gw_L_99 hd_X1_thrown ⟨rfl, rfl⟩ S0 hK hP1 (rest := []) rfl hl.1 (Nat.le_of_ble_eq_true rfl) ⟨(Nat.le_of_ble_eq_true rfl), (Nat.le_of_ble_eq_true rfl)⟩ hcs dL_law_1219 (fun _ => ?_)
    rw [show f_X1_thrown T1 C1 (sS σ 17 0) = 0 from h17]
    refine lv_iload hx hb dL_law_1222 (lv_at hl 1 rfl) ?_
    refine lv_icmp_eq (tgt := 1229) hx hb dL_law_1224 (by decide) (fun _ => ?_) (fun h => absurd rfl h)
    refine lv_iload hx hb dL_law_1229 (lv_at hl 1 rfl) ?_
    refine lv_if_ne (tgt := 1246) hx hb dL_law_1231 (by decide) (fun h => absurd rfl h) (fun _ => ?_)
    obtain ⟨fo, hfo, hPO⟩ := hO
    refine lv_aload_n hx hb dL_law_1234 rfl (lv_at hl 5 rfl) ?_
    refine lv_iconst (v := 0) hx hb dL_law_1235 (by decide) ?_
    refine va_lald hx hb hK hPO 0 1 rfl rfl (by unfold vp_in; decide) dL_law_1236 ?_
    rw [show fo (0 : Int32).toNatClampNeg = (Int32.toInt64 (f_X0_coreCookie T C (sS σ 17 0) (xs (i + 1).toNatClampNeg))) from hfo]
    refine lv_iload hx hb dL_law_1237 (lv_at hl 0 rfl) ?_
    refine lv_i2l (v := (Int32.toInt64 (f_X0_coreCookie T C (sS σ 17 0) (xs (i + 1).toNatClampNeg)))) hx hb dL_law_1239 rfl ?_
    refine W.lcmp hx hb dL_law_1240 ?_
    rw [lgc]
    refine lv_if_eq (tgt := 1246) hx hb dL_law_1241 (by decide) (fun _ => ?_) (fun h => absurd rfl h)
    refine lv_goto (tgt := 1609) hx hb dL_law_1246 rfl ?_
    exact kk T1 C1 (sS σ 17 0) H2 locs2 cells slots ls hp1 ⟨hP0, hP1, ⟨_, fo, hfo, hPO⟩, hOD, hS, by omega, by omega⟩ (lv_sub hl [2, 3, 4, 5, 6, 7] rfl)
  · refine ch_T (x_coreCookie l hst E q0 hq0 hT hC σ hI o (xs (i + 1).toNatClampNeg) he) (gw_H ml_L_160 st_L_coreCookie ini_L cd_L_coreCookie) hd_L_coreCookie rfl ⟨rfl, rfl⟩ S0 hK hP0 hXF hNC hS (rest := []) rfl hl.1 (Nat.le_of_ble_eq_true rfl) ⟨(Nat.le_of_ble_eq_true rfl), (Nat.le_of_ble_eq_true rfl)⟩ ⟨by show _ ≤ 1067; omega, by show _ ≤ 8619; omega⟩ dL_law_1201 (fun H1 locs1 hS hz hk => ?_)
    have hP0 : PP 0 E q0 (sS σ 17 (e_X0_coreCookie T C σ (xs (i + 1).toNatClampNeg))) H1 := hP0.kept (H1 := H1) (fun a ha _ => hk a ha)
    have hP1 := hP1.kept (H1 := H1) (fun a ha _ => hk a ha)
    have hO := hO.kept (H1 := H1) (hk o hO.lt)
    have hOD := hOD.kept (H1 := H1) (hk od hOD.lt)
    refine lv_istore hx hb dL_law_1204 hl (by decide) rfl (fun ls hl => ?_)
    have hl : lv_has ls 9 [(6, .int (e_X0_coreCookie T C σ (xs (i + 1).toNatClampNeg))), (0, .ref b), (1, .ref (q0 0)), (2, .ref (q1 0)), (3, .ref o), (4, .ref od), (5, .int i)] := hl
    refine lv_aload_n hx hb dL_law_1206 rfl (lv_at hl 3 rfl) ?_
    refine lv_aload_n hx hb dL_law_1207 rfl (lv_at hl 1 rfl) ?_
    refine lv_iload hx hb dL_law_1208 (lv_at hl 6 rfl) ?_
    refine lv_iconst (v := 1) hx hb dL_law_1210 (by decide) ?_
    refine lv_iadd hx hb dL_law_1211 ?_
    refine va_sld hx hb hX hbl hbA hS hi1 dL_law_1212 ?_
    have hcs : cells + 1 ≤ room_1.cells ∧ slots + 6 ≤ room_1.slots := ⟨by show _ ≤ 1067; omega, by show _ ≤ 8619; omega⟩
    refine gl_WI (A := An s) (k_X1_coreCookie l E q1 hq1 hT hC σ hI (xs (i + 1).toNatClampNeg)) gw_L_162 hd_X1_coreCookie ⟨rfl, rfl⟩ S0 hK hP1 hS (fun a h => hn1 a h) (rest := []) rfl hl.1 (Nat.le_of_ble_eq_true rfl) ⟨(Nat.le_of_ble_eq_true rfl), (Nat.le_of_ble_eq_true rfl)⟩ hcs dL_law_1213 (fun H2 locs2 hP1 hS hz2 hk2 hex2 => ?_)
    have hg := (q_coreCookie hT hC hI (xs (i + 1).toNatClampNeg)).2 he
    rw [hg] at hP1
    have hP0 := hP0.kept (H1 := H2) (fun a ha h => hk2 a ha (h01 a h))
    have hO := hO.kept (H1 := H2) (hk2 o hO.lt h1o)
    have hOD := hOD.kept (H1 := H2) (hk2 od hOD.lt h1d)
    refine lv_istore hx hb dL_law_1216 hl (by decide) rfl (fun ls hl => ?_)
    have hl : lv_has ls 9 [(7, .int (f_X1_coreCookie T C σ (xs (i + 1).toNatClampNeg))), (6, .int (e_X0_coreCookie T C σ (xs (i + 1).toNatClampNeg))), (0, .ref b), (1, .ref (q0 0)), (2, .ref (q1 0)), (3, .ref o), (4, .ref od), (5, .int i)] := hl
    refine lv_aload_n hx hb dL_law_1218 rfl (lv_at hl 4 rfl) ?_
    refine cl_RI (k_X1_thrown l E q1 hq1 (hp.s17 (e_X0_coreCookie T C σ (xs (i + 1).toNatClampNeg))).1 (hp.s17 (e_X0_coreCookie T C σ (xs (i + 1).toNatClampNeg))).2.1 (sS σ 17 (e_X0_coreCookie T C σ (xs (i + 1).toNatClampNeg))) (hp.s17 (e_X0_coreCookie T C σ (xs (i + 1).toNatClampNeg))).2.2.1) gw_L_99 hd_X1_thrown ⟨rfl, rfl⟩ S0 hK hP1 (rest := []) rfl hl.1 (Nat.le_of_ble_eq_true rfl) ⟨(Nat.le_of_ble_eq_true rfl), (Nat.le_of_ble_eq_true rfl)⟩ hcs dL_law_1219 (fun _ => ?_)
    rw [show f_X1_thrown T C (sS σ 17 (e_X0_coreCookie T C σ (xs (i + 1).toNatClampNeg))) = (e_X0_coreCookie T C σ (xs (i + 1).toNatClampNeg)) from rfl]
    refine lv_iload hx hb dL_law_1222 (lv_at hl 1 rfl) ?_
    refine lv_icmp_eq (tgt := 1229) hx hb dL_law_1224 (by decide) (fun _ => ?_) (fun h => absurd rfl h)
    refine lv_iload hx hb dL_law_1229 (lv_at hl 1 rfl) ?_
    refine lv_if_ne (tgt := 1246) hx hb dL_law_1231 (by decide) (fun _ => ?_) (fun h => absurd h he)
    refine lv_goto (tgt := 1609) hx hb dL_law_1246 rfl ?_
    exact kk T C (sS σ 17 (e_X0_coreCookie T C σ (xs (i + 1).toNatClampNeg))) H2 locs2 (cells + 1) (slots + 6) ls (hp.s17 _) ⟨hP0, hP1, ⟨_, hO⟩, hOD, hS, by omega, by omega⟩ (lv_sub hl [2, 3, 4, 5, 6, 7] rfl)
set_option maxHeartbeats 1000000 in
theorem c_leaderOf {p : Program} {l : Launch} {e : Env} {s : State} {m : MethodId} {args : Array Value} {below : List Frame} {meth : Method} {c : Code} {H : Heap} {locs : List Loc} {cells slots : Nat} {Q : State → Prop} {ls : Array Slot} {E : Ev} {dD : ClassId} {q0 q1 : Nat → Nat} {o od b L T C n : Nat} {xs : Nat → Int32} {i : Int32} {σ : St} (hst : l.stackTraces = false) (S0 : Fx p m c cL_law 9 s args RL) (K : LK E dD q0 q1 o od b L xs s) (hp : LPs T C n σ) (hh : LH E dD q0 q1 o od s n σ H locs cells slots) (hn : n < 512) (hl : lv_has ls 9 [(0, .ref b), (1, .ref (q0 0)), (2, .ref (q1 0)), (3, .ref o), (4, .ref od), (5, .int i)]) (hi1 : vp_in (i + 1) L) (hi2 : vp_in (i + 2) L) (hi3 : vp_in (i + 3) L)
    (hpl : (e_X0_leaderOf T C σ (xs (i + 1).toNatClampNeg)) = 0 → True → ∃ T1 C1 : Nat, LPs T1 C1 (n + 1) (sS σ 17 0))
    (kk : ∀ (T1 C1 : Nat) (σ1 : St) (H1 : Heap) (locs1 : List Loc) (c1 s1 : Nat) (ls : Array Slot), LPs T1 C1 (n + 1) σ1 → LH E dD q0 q1 o od s (n + 1) σ1 H1 locs1 c1 s1 → lv_has ls 9 [(0, .ref b), (1, .ref (q0 0)), (2, .ref (q1 0)), (3, .ref o), (4, .ref od), (5, .int i)] → W p l e room_1 s m args below meth c H1 locs1 c1 s1 Q (F0 m 1609 ls [])) : W p l e room_1 s m args below meth c H locs cells slots Q (F0 m 1249 ls []) := by
  obtain ⟨⟨hq0, hq1, hn0, hn1, hno, hnd⟩, ⟨h01, h0o, h1o, h0d, h1d, hod⟩, ⟨hX, hbl, hL⟩, hK, hKD, hXF, hNC⟩ := K
  obtain ⟨hP0, hP1, ⟨w0, hO⟩, hOD, hS, hcl, hsl⟩ := hh
  have hT := hp.1
  have hC := hp.2.1
  have hI := hp.2.2.1
  have hx := S0.1
  have hb := S0.2.1
  have hbA : ¬ An s b := Nat.not_le.mpr hbl
  refine lv_aload_n hx hb dL_law_1249 rfl (lv_at hl 1 rfl) ?_
  refine lv_aload_n hx hb dL_law_1250 rfl (lv_at hl 0 rfl) ?_
  refine lv_iload hx hb dL_law_1251 (lv_at hl 5 rfl) ?_
  refine lv_iconst (v := 1) hx hb dL_law_1253 (by decide) ?_
  refine lv_iadd hx hb dL_law_1254 ?_
  refine va_sld hx hb hX hbl hbA hS hi1 dL_law_1255 ?_
  refine lv_aload_n hx hb dL_law_1256 rfl (lv_at hl 3 rfl) ?_
  by_cases he : (e_X0_leaderOf T C σ (xs (i + 1).toNatClampNeg)) = 0
  · have he0 : e_X0_leaderOf T C (sS σ 17 0) (xs (i + 1).toNatClampNeg) = 0 := he
    have hP00 : PP 0 E q0 (sS σ 17 0) H := hP0
    refine ch_N (h_leaderOf l E q0 hq0 hT hC (sS σ 17 0) (inv_sS ⟨by decide, by decide⟩ hI) o h0o (xs (i + 1).toNatClampNeg) he0) (gw_H ml_L_163 st_L_leaderOf ini_L cd_L_leaderOf) hd_L_leaderOf rfl ⟨rfl, rfl⟩ S0 hK hP00 hO hS (fun a h => h.elim (hn0 a) (fun e9 => by rw [e9]; exact hno)) (rest := []) rfl hl.1 (Nat.le_of_ble_eq_true rfl) ⟨(Nat.le_of_ble_eq_true rfl), (Nat.le_of_ble_eq_true rfl)⟩ ⟨by show _ ≤ 1067; omega, by show _ ≤ 8619; omega⟩ dL_law_1257 (fun H1 locs1 hP0 hO hS hz hk hex => ?_)
    have hP1 := hP1.kept (H1 := H1) (fun a ha h => hk a ha (fun h9 => h9.elim (fun h8 => h01 a h8 h) (fun e9 => h1o (by rw [← e9]; exact h))))
    have hOD := hOD.kept (H1 := H1) (hk od hOD.lt (fun h9 => h9.elim h0d (fun e9 => hod e9.symm)))
    refine lv_istore hx hb dL_law_1260 hl (by decide) rfl (fun ls hl => ?_)
    have hl : lv_has ls 9 [(6, .int 0), (0, .ref b), (1, .ref (q0 0)), (2, .ref (q1 0)), (3, .ref o), (4, .ref od), (5, .int i)] := hl
    refine lv_aload_n hx hb dL_law_1262 rfl (lv_at hl 3 rfl) ?_
    refine lv_aload_n hx hb dL_law_1263 rfl (lv_at hl 1 rfl) ?_
    refine lv_iload hx hb dL_law_1264 (lv_at hl 6 rfl) ?_
    refine lv_iconst (v := 1) hx hb dL_law_1266 (by decide) ?_
    refine lv_iadd hx hb dL_law_1267 ?_
    refine va_sld hx hb hX hbl hbA hS hi1 dL_law_1268 ?_
    have hcs : cells ≤ room_1.cells ∧ slots ≤ room_1.slots := ⟨by show _ ≤ 1067; omega, by show _ ≤ 8619; omega⟩
    refine gl_WI (A := An s) (k_X1_leaderOf l E q1 hq1 hT hC σ hI (xs (i + 1).toNatClampNeg)) gw_L_165 hd_X1_leaderOf ⟨rfl, rfl⟩ S0 hK hP1 hS (fun a h => hn1 a h) (rest := []) rfl hl.1 (Nat.le_of_ble_eq_true rfl) ⟨(Nat.le_of_ble_eq_true rfl), (Nat.le_of_ble_eq_true rfl)⟩ hcs dL_law_1269 (fun H2 locs2 hP1 hS hz2 hk2 hex2 => ?_)
    obtain ⟨hg, hf, h17⟩ := (q_leaderOf hT hC hI (xs (i + 1).toNatClampNeg)).1 he
    rw [hg] at hP1
    rw [hf]
    have hP0 := hP0.kept (H1 := H2) (fun a ha h => hk2 a ha (h01 a h))
    have hO := hO.kept (H1 := H2) (hk2 o hO.lt h1o)
    have hOD := hOD.kept (H1 := H2) (hk2 od hOD.lt h1d)
    refine lv_istore hx hb dL_law_1272 hl (by decide) rfl (fun ls hl => ?_)
    have hl : lv_has ls 9 [(7, .int (f_X0_leaderOf T C (sS σ 17 0) (xs (i + 1).toNatClampNeg))), (6, .int 0), (0, .ref b), (1, .ref (q0 0)), (2, .ref (q1 0)), (3, .ref o), (4, .ref od), (5, .int i)] := hl
    refine lv_aload_n hx hb dL_law_1274 rfl (lv_at hl 4 rfl) ?_
    obtain ⟨T1, C1, hp1⟩ := hpl he hex
    refine cl_RI (k_X1_thrown l E q1 hq1 hp1.1 hp1.2.1 (sS σ 17 0) hp1.2.2.1) gw_L_99 hd_X1_thrown ⟨rfl, rfl⟩ S0 hK hP1 (rest := []) rfl hl.1 (Nat.le_of_ble_eq_true rfl) ⟨(Nat.le_of_ble_eq_true rfl), (Nat.le_of_ble_eq_true rfl)⟩ hcs dL_law_1275 (fun _ => ?_)
    rw [show f_X1_thrown T1 C1 (sS σ 17 0) = 0 from h17]
    refine lv_iload hx hb dL_law_1278 (lv_at hl 1 rfl) ?_
    refine lv_icmp_eq (tgt := 1285) hx hb dL_law_1280 (by decide) (fun _ => ?_) (fun h => absurd rfl h)
    refine lv_iload hx hb dL_law_1285 (lv_at hl 1 rfl) ?_
    refine lv_if_ne (tgt := 1302) hx hb dL_law_1287 (by decide) (fun h => absurd rfl h) (fun _ => ?_)
    obtain ⟨fo, hfo, hPO⟩ := hO
    refine lv_aload_n hx hb dL_law_1290 rfl (lv_at hl 5 rfl) ?_
    refine lv_iconst (v := 0) hx hb dL_law_1291 (by decide) ?_
    refine va_lald hx hb hK hPO 0 1 rfl rfl (by unfold vp_in; decide) dL_law_1292 ?_
    rw [show fo (0 : Int32).toNatClampNeg = (Int32.toInt64 (f_X0_leaderOf T C (sS σ 17 0) (xs (i + 1).toNatClampNeg))) from hfo]
    refine lv_iload hx hb dL_law_1293 (lv_at hl 0 rfl) ?_
    refine lv_i2l (v := (Int32.toInt64 (f_X0_leaderOf T C (sS σ 17 0) (xs (i + 1).toNatClampNeg)))) hx hb dL_law_1295 rfl ?_
    refine W.lcmp hx hb dL_law_1296 ?_
    rw [lgc]
    refine lv_if_eq (tgt := 1302) hx hb dL_law_1297 (by decide) (fun _ => ?_) (fun h => absurd rfl h)
    refine lv_goto (tgt := 1609) hx hb dL_law_1302 rfl ?_
    exact kk T1 C1 (sS σ 17 0) H2 locs2 cells slots ls hp1 ⟨hP0, hP1, ⟨_, fo, hfo, hPO⟩, hOD, hS, by omega, by omega⟩ (lv_sub hl [2, 3, 4, 5, 6, 7] rfl)
  · refine ch_T (x_leaderOf l hst E q0 hq0 hT hC σ hI o (xs (i + 1).toNatClampNeg) he) (gw_H ml_L_163 st_L_leaderOf ini_L cd_L_leaderOf) hd_L_leaderOf rfl ⟨rfl, rfl⟩ S0 hK hP0 hXF hNC hS (rest := []) rfl hl.1 (Nat.le_of_ble_eq_true rfl) ⟨(Nat.le_of_ble_eq_true rfl), (Nat.le_of_ble_eq_true rfl)⟩ ⟨by show _ ≤ 1067; omega, by show _ ≤ 8619; omega⟩ dL_law_1257 (fun H1 locs1 hS hz hk => ?_)
    have hP0 : PP 0 E q0 (sS σ 17 (e_X0_leaderOf T C σ (xs (i + 1).toNatClampNeg))) H1 := hP0.kept (H1 := H1) (fun a ha _ => hk a ha)
    have hP1 := hP1.kept (H1 := H1) (fun a ha _ => hk a ha)
    have hO := hO.kept (H1 := H1) (hk o hO.lt)
    have hOD := hOD.kept (H1 := H1) (hk od hOD.lt)
    refine lv_istore hx hb dL_law_1260 hl (by decide) rfl (fun ls hl => ?_)
    have hl : lv_has ls 9 [(6, .int (e_X0_leaderOf T C σ (xs (i + 1).toNatClampNeg))), (0, .ref b), (1, .ref (q0 0)), (2, .ref (q1 0)), (3, .ref o), (4, .ref od), (5, .int i)] := hl
    refine lv_aload_n hx hb dL_law_1262 rfl (lv_at hl 3 rfl) ?_
    refine lv_aload_n hx hb dL_law_1263 rfl (lv_at hl 1 rfl) ?_
    refine lv_iload hx hb dL_law_1264 (lv_at hl 6 rfl) ?_
    refine lv_iconst (v := 1) hx hb dL_law_1266 (by decide) ?_
    refine lv_iadd hx hb dL_law_1267 ?_
    refine va_sld hx hb hX hbl hbA hS hi1 dL_law_1268 ?_
    have hcs : cells + 1 ≤ room_1.cells ∧ slots + 6 ≤ room_1.slots := ⟨by show _ ≤ 1067; omega, by show _ ≤ 8619; omega⟩
    refine gl_WI (A := An s) (k_X1_leaderOf l E q1 hq1 hT hC σ hI (xs (i + 1).toNatClampNeg)) gw_L_165 hd_X1_leaderOf ⟨rfl, rfl⟩ S0 hK hP1 hS (fun a h => hn1 a h) (rest := []) rfl hl.1 (Nat.le_of_ble_eq_true rfl) ⟨(Nat.le_of_ble_eq_true rfl), (Nat.le_of_ble_eq_true rfl)⟩ hcs dL_law_1269 (fun H2 locs2 hP1 hS hz2 hk2 hex2 => ?_)
    have hg := (q_leaderOf hT hC hI (xs (i + 1).toNatClampNeg)).2 he
    rw [hg] at hP1
    have hP0 := hP0.kept (H1 := H2) (fun a ha h => hk2 a ha (h01 a h))
    have hO := hO.kept (H1 := H2) (hk2 o hO.lt h1o)
    have hOD := hOD.kept (H1 := H2) (hk2 od hOD.lt h1d)
    refine lv_istore hx hb dL_law_1272 hl (by decide) rfl (fun ls hl => ?_)
    have hl : lv_has ls 9 [(7, .int (f_X1_leaderOf T C σ (xs (i + 1).toNatClampNeg))), (6, .int (e_X0_leaderOf T C σ (xs (i + 1).toNatClampNeg))), (0, .ref b), (1, .ref (q0 0)), (2, .ref (q1 0)), (3, .ref o), (4, .ref od), (5, .int i)] := hl
    refine lv_aload_n hx hb dL_law_1274 rfl (lv_at hl 4 rfl) ?_
    refine cl_RI (k_X1_thrown l E q1 hq1 (hp.s17 (e_X0_leaderOf T C σ (xs (i + 1).toNatClampNeg))).1 (hp.s17 (e_X0_leaderOf T C σ (xs (i + 1).toNatClampNeg))).2.1 (sS σ 17 (e_X0_leaderOf T C σ (xs (i + 1).toNatClampNeg))) (hp.s17 (e_X0_leaderOf T C σ (xs (i + 1).toNatClampNeg))).2.2.1) gw_L_99 hd_X1_thrown ⟨rfl, rfl⟩ S0 hK hP1 (rest := []) rfl hl.1 (Nat.le_of_ble_eq_true rfl) ⟨(Nat.le_of_ble_eq_true rfl), (Nat.le_of_ble_eq_true rfl)⟩ hcs dL_law_1275 (fun _ => ?_)
    rw [show f_X1_thrown T C (sS σ 17 (e_X0_leaderOf T C σ (xs (i + 1).toNatClampNeg))) = (e_X0_leaderOf T C σ (xs (i + 1).toNatClampNeg)) from rfl]
    refine lv_iload hx hb dL_law_1278 (lv_at hl 1 rfl) ?_
    refine lv_icmp_eq (tgt := 1285) hx hb dL_law_1280 (by decide) (fun _ => ?_) (fun h => absurd rfl h)
    refine lv_iload hx hb dL_law_1285 (lv_at hl 1 rfl) ?_
    refine lv_if_ne (tgt := 1302) hx hb dL_law_1287 (by decide) (fun _ => ?_) (fun h => absurd h he)
    refine lv_goto (tgt := 1609) hx hb dL_law_1302 rfl ?_
    exact kk T C (sS σ 17 (e_X0_leaderOf T C σ (xs (i + 1).toNatClampNeg))) H2 locs2 (cells + 1) (slots + 6) ls (hp.s17 _) ⟨hP0, hP1, ⟨_, hO⟩, hOD, hS, by omega, by omega⟩ (lv_sub hl [2, 3, 4, 5, 6, 7] rfl)
set_option maxHeartbeats 1000000 in
theorem c_queueLength {p : Program} {l : Launch} {e : Env} {s : State} {m : MethodId} {args : Array Value} {below : List Frame} {meth : Method} {c : Code} {H : Heap} {locs : List Loc} {cells slots : Nat} {Q : State → Prop} {ls : Array Slot} {E : Ev} {dD : ClassId} {q0 q1 : Nat → Nat} {o od b L T C n : Nat} {xs : Nat → Int32} {i : Int32} {σ : St} (hst : l.stackTraces = false) (S0 : Fx p m c cL_law 9 s args RL) (K : LK E dD q0 q1 o od b L xs s) (hp : LPs T C n σ) (hh : LH E dD q0 q1 o od s n σ H locs cells slots) (hn : n < 512) (hl : lv_has ls 9 [(0, .ref b), (1, .ref (q0 0)), (2, .ref (q1 0)), (3, .ref o), (4, .ref od), (5, .int i)]) (hi1 : vp_in (i + 1) L) (hi2 : vp_in (i + 2) L) (hi3 : vp_in (i + 3) L)
    (hpl : (e_X0_queueLength T C σ (xs (i + 1).toNatClampNeg)) = 0 → True → ∃ T1 C1 : Nat, LPs T1 C1 (n + 1) (sS σ 17 0))
    (kk : ∀ (T1 C1 : Nat) (σ1 : St) (H1 : Heap) (locs1 : List Loc) (c1 s1 : Nat) (ls : Array Slot), LPs T1 C1 (n + 1) σ1 → LH E dD q0 q1 o od s (n + 1) σ1 H1 locs1 c1 s1 → lv_has ls 9 [(0, .ref b), (1, .ref (q0 0)), (2, .ref (q1 0)), (3, .ref o), (4, .ref od), (5, .int i)] → W p l e room_1 s m args below meth c H1 locs1 c1 s1 Q (F0 m 1609 ls [])) : W p l e room_1 s m args below meth c H locs cells slots Q (F0 m 1305 ls []) := by
  obtain ⟨⟨hq0, hq1, hn0, hn1, hno, hnd⟩, ⟨h01, h0o, h1o, h0d, h1d, hod⟩, ⟨hX, hbl, hL⟩, hK, hKD, hXF, hNC⟩ := K
  obtain ⟨hP0, hP1, ⟨w0, hO⟩, hOD, hS, hcl, hsl⟩ := hh
  have hT := hp.1
  have hC := hp.2.1
  have hI := hp.2.2.1
  have hx := S0.1
  have hb := S0.2.1
  have hbA : ¬ An s b := Nat.not_le.mpr hbl
  refine lv_aload_n hx hb dL_law_1305 rfl (lv_at hl 1 rfl) ?_
  refine lv_aload_n hx hb dL_law_1306 rfl (lv_at hl 0 rfl) ?_
  refine lv_iload hx hb dL_law_1307 (lv_at hl 5 rfl) ?_
  refine lv_iconst (v := 1) hx hb dL_law_1309 (by decide) ?_
  refine lv_iadd hx hb dL_law_1310 ?_
  refine va_sld hx hb hX hbl hbA hS hi1 dL_law_1311 ?_
  refine lv_aload_n hx hb dL_law_1312 rfl (lv_at hl 3 rfl) ?_
  by_cases he : (e_X0_queueLength T C σ (xs (i + 1).toNatClampNeg)) = 0
  · have he0 : e_X0_queueLength T C (sS σ 17 0) (xs (i + 1).toNatClampNeg) = 0 := he
    have hP00 : PP 0 E q0 (sS σ 17 0) H := hP0
    refine ch_N (h_queueLength l E q0 hq0 hT hC (sS σ 17 0) (inv_sS ⟨by decide, by decide⟩ hI) o h0o (xs (i + 1).toNatClampNeg) he0) (gw_H ml_L_166 st_L_queueLength ini_L cd_L_queueLength) hd_L_queueLength rfl ⟨rfl, rfl⟩ S0 hK hP00 hO hS (fun a h => h.elim (hn0 a) (fun e9 => by rw [e9]; exact hno)) (rest := []) rfl hl.1 (Nat.le_of_ble_eq_true rfl) ⟨(Nat.le_of_ble_eq_true rfl), (Nat.le_of_ble_eq_true rfl)⟩ ⟨by show _ ≤ 1067; omega, by show _ ≤ 8619; omega⟩ dL_law_1313 (fun H1 locs1 hP0 hO hS hz hk hex => ?_)
    have hP1 := hP1.kept (H1 := H1) (fun a ha h => hk a ha (fun h9 => h9.elim (fun h8 => h01 a h8 h) (fun e9 => h1o (by rw [← e9]; exact h))))
    have hOD := hOD.kept (H1 := H1) (hk od hOD.lt (fun h9 => h9.elim h0d (fun e9 => hod e9.symm)))
    refine lv_istore hx hb dL_law_1316 hl (by decide) rfl (fun ls hl => ?_)
    have hl : lv_has ls 9 [(6, .int 0), (0, .ref b), (1, .ref (q0 0)), (2, .ref (q1 0)), (3, .ref o), (4, .ref od), (5, .int i)] := hl
    refine lv_aload_n hx hb dL_law_1318 rfl (lv_at hl 3 rfl) ?_
    refine lv_aload_n hx hb dL_law_1319 rfl (lv_at hl 1 rfl) ?_
    refine lv_iload hx hb dL_law_1320 (lv_at hl 6 rfl) ?_
    refine lv_iconst (v := 1) hx hb dL_law_1322 (by decide) ?_
    refine lv_iadd hx hb dL_law_1323 ?_
    refine va_sld hx hb hX hbl hbA hS hi1 dL_law_1324 ?_
    have hcs : cells ≤ room_1.cells ∧ slots ≤ room_1.slots := ⟨by show _ ≤ 1067; omega, by show _ ≤ 8619; omega⟩
    refine gl_WI (A := An s) (k_X1_queueLength l E q1 hq1 hT hC σ hI (xs (i + 1).toNatClampNeg)) gw_L_168 hd_X1_queueLength ⟨rfl, rfl⟩ S0 hK hP1 hS (fun a h => hn1 a h) (rest := []) rfl hl.1 (Nat.le_of_ble_eq_true rfl) ⟨(Nat.le_of_ble_eq_true rfl), (Nat.le_of_ble_eq_true rfl)⟩ hcs dL_law_1325 (fun H2 locs2 hP1 hS hz2 hk2 hex2 => ?_)
    obtain ⟨hg, hf, h17⟩ := (q_queueLength hT hC hI (xs (i + 1).toNatClampNeg)).1 he
    rw [hg] at hP1
    rw [hf]
    have hP0 := hP0.kept (H1 := H2) (fun a ha h => hk2 a ha (h01 a h))
    have hO := hO.kept (H1 := H2) (hk2 o hO.lt h1o)
    have hOD := hOD.kept (H1 := H2) (hk2 od hOD.lt h1d)
    refine lv_istore hx hb dL_law_1328 hl (by decide) rfl (fun ls hl => ?_)
    have hl : lv_has ls 9 [(7, .int (f_X0_queueLength T C (sS σ 17 0) (xs (i + 1).toNatClampNeg))), (6, .int 0), (0, .ref b), (1, .ref (q0 0)), (2, .ref (q1 0)), (3, .ref o), (4, .ref od), (5, .int i)] := hl
    refine lv_aload_n hx hb dL_law_1330 rfl (lv_at hl 4 rfl) ?_
    obtain ⟨T1, C1, hp1⟩ := hpl he hex
    refine cl_RI (k_X1_thrown l E q1 hq1 hp1.1 hp1.2.1 (sS σ 17 0) hp1.2.2.1) gw_L_99 hd_X1_thrown ⟨rfl, rfl⟩ S0 hK hP1 (rest := []) rfl hl.1 (Nat.le_of_ble_eq_true rfl) ⟨(Nat.le_of_ble_eq_true rfl), (Nat.le_of_ble_eq_true rfl)⟩ hcs dL_law_1331 (fun _ => ?_)
    rw [show f_X1_thrown T1 C1 (sS σ 17 0) = 0 from h17]
    refine lv_iload hx hb dL_law_1334 (lv_at hl 1 rfl) ?_
    refine lv_icmp_eq (tgt := 1341) hx hb dL_law_1336 (by decide) (fun _ => ?_) (fun h => absurd rfl h)
    refine lv_iload hx hb dL_law_1341 (lv_at hl 1 rfl) ?_
    refine lv_if_ne (tgt := 1358) hx hb dL_law_1343 (by decide) (fun h => absurd rfl h) (fun _ => ?_)
    obtain ⟨fo, hfo, hPO⟩ := hO
    refine lv_aload_n hx hb dL_law_1346 rfl (lv_at hl 5 rfl) ?_
    refine lv_iconst (v := 0) hx hb dL_law_1347 (by decide) ?_
    refine va_lald hx hb hK hPO 0 1 rfl rfl (by unfold vp_in; decide) dL_law_1348 ?_
    rw [show fo (0 : Int32).toNatClampNeg = (Int32.toInt64 (f_X0_queueLength T C (sS σ 17 0) (xs (i + 1).toNatClampNeg))) from hfo]
    refine lv_iload hx hb dL_law_1349 (lv_at hl 0 rfl) ?_
    refine lv_i2l (v := (Int32.toInt64 (f_X0_queueLength T C (sS σ 17 0) (xs (i + 1).toNatClampNeg)))) hx hb dL_law_1351 rfl ?_
    refine W.lcmp hx hb dL_law_1352 ?_
    rw [lgc]
    refine lv_if_eq (tgt := 1358) hx hb dL_law_1353 (by decide) (fun _ => ?_) (fun h => absurd rfl h)
    refine lv_goto (tgt := 1609) hx hb dL_law_1358 rfl ?_
    exact kk T1 C1 (sS σ 17 0) H2 locs2 cells slots ls hp1 ⟨hP0, hP1, ⟨_, fo, hfo, hPO⟩, hOD, hS, by omega, by omega⟩ (lv_sub hl [2, 3, 4, 5, 6, 7] rfl)
  · refine ch_T (x_queueLength l hst E q0 hq0 hT hC σ hI o (xs (i + 1).toNatClampNeg) he) (gw_H ml_L_166 st_L_queueLength ini_L cd_L_queueLength) hd_L_queueLength rfl ⟨rfl, rfl⟩ S0 hK hP0 hXF hNC hS (rest := []) rfl hl.1 (Nat.le_of_ble_eq_true rfl) ⟨(Nat.le_of_ble_eq_true rfl), (Nat.le_of_ble_eq_true rfl)⟩ ⟨by show _ ≤ 1067; omega, by show _ ≤ 8619; omega⟩ dL_law_1313 (fun H1 locs1 hS hz hk => ?_)
    have hP0 : PP 0 E q0 (sS σ 17 (e_X0_queueLength T C σ (xs (i + 1).toNatClampNeg))) H1 := hP0.kept (H1 := H1) (fun a ha _ => hk a ha)
    have hP1 := hP1.kept (H1 := H1) (fun a ha _ => hk a ha)
    have hO := hO.kept (H1 := H1) (hk o hO.lt)
    have hOD := hOD.kept (H1 := H1) (hk od hOD.lt)
    refine lv_istore hx hb dL_law_1316 hl (by decide) rfl (fun ls hl => ?_)
    have hl : lv_has ls 9 [(6, .int (e_X0_queueLength T C σ (xs (i + 1).toNatClampNeg))), (0, .ref b), (1, .ref (q0 0)), (2, .ref (q1 0)), (3, .ref o), (4, .ref od), (5, .int i)] := hl
    refine lv_aload_n hx hb dL_law_1318 rfl (lv_at hl 3 rfl) ?_
    refine lv_aload_n hx hb dL_law_1319 rfl (lv_at hl 1 rfl) ?_
    refine lv_iload hx hb dL_law_1320 (lv_at hl 6 rfl) ?_
    refine lv_iconst (v := 1) hx hb dL_law_1322 (by decide) ?_
    refine lv_iadd hx hb dL_law_1323 ?_
    refine va_sld hx hb hX hbl hbA hS hi1 dL_law_1324 ?_
    have hcs : cells + 1 ≤ room_1.cells ∧ slots + 6 ≤ room_1.slots := ⟨by show _ ≤ 1067; omega, by show _ ≤ 8619; omega⟩
    refine gl_WI (A := An s) (k_X1_queueLength l E q1 hq1 hT hC σ hI (xs (i + 1).toNatClampNeg)) gw_L_168 hd_X1_queueLength ⟨rfl, rfl⟩ S0 hK hP1 hS (fun a h => hn1 a h) (rest := []) rfl hl.1 (Nat.le_of_ble_eq_true rfl) ⟨(Nat.le_of_ble_eq_true rfl), (Nat.le_of_ble_eq_true rfl)⟩ hcs dL_law_1325 (fun H2 locs2 hP1 hS hz2 hk2 hex2 => ?_)
    have hg := (q_queueLength hT hC hI (xs (i + 1).toNatClampNeg)).2 he
    rw [hg] at hP1
    have hP0 := hP0.kept (H1 := H2) (fun a ha h => hk2 a ha (h01 a h))
    have hO := hO.kept (H1 := H2) (hk2 o hO.lt h1o)
    have hOD := hOD.kept (H1 := H2) (hk2 od hOD.lt h1d)
    refine lv_istore hx hb dL_law_1328 hl (by decide) rfl (fun ls hl => ?_)
    have hl : lv_has ls 9 [(7, .int (f_X1_queueLength T C σ (xs (i + 1).toNatClampNeg))), (6, .int (e_X0_queueLength T C σ (xs (i + 1).toNatClampNeg))), (0, .ref b), (1, .ref (q0 0)), (2, .ref (q1 0)), (3, .ref o), (4, .ref od), (5, .int i)] := hl
    refine lv_aload_n hx hb dL_law_1330 rfl (lv_at hl 4 rfl) ?_
    refine cl_RI (k_X1_thrown l E q1 hq1 (hp.s17 (e_X0_queueLength T C σ (xs (i + 1).toNatClampNeg))).1 (hp.s17 (e_X0_queueLength T C σ (xs (i + 1).toNatClampNeg))).2.1 (sS σ 17 (e_X0_queueLength T C σ (xs (i + 1).toNatClampNeg))) (hp.s17 (e_X0_queueLength T C σ (xs (i + 1).toNatClampNeg))).2.2.1) gw_L_99 hd_X1_thrown ⟨rfl, rfl⟩ S0 hK hP1 (rest := []) rfl hl.1 (Nat.le_of_ble_eq_true rfl) ⟨(Nat.le_of_ble_eq_true rfl), (Nat.le_of_ble_eq_true rfl)⟩ hcs dL_law_1331 (fun _ => ?_)
    rw [show f_X1_thrown T C (sS σ 17 (e_X0_queueLength T C σ (xs (i + 1).toNatClampNeg))) = (e_X0_queueLength T C σ (xs (i + 1).toNatClampNeg)) from rfl]
    refine lv_iload hx hb dL_law_1334 (lv_at hl 1 rfl) ?_
    refine lv_icmp_eq (tgt := 1341) hx hb dL_law_1336 (by decide) (fun _ => ?_) (fun h => absurd rfl h)
    refine lv_iload hx hb dL_law_1341 (lv_at hl 1 rfl) ?_
    refine lv_if_ne (tgt := 1358) hx hb dL_law_1343 (by decide) (fun _ => ?_) (fun h => absurd h he)
    refine lv_goto (tgt := 1609) hx hb dL_law_1358 rfl ?_
    exact kk T C (sS σ 17 (e_X0_queueLength T C σ (xs (i + 1).toNatClampNeg))) H2 locs2 (cells + 1) (slots + 6) ls (hp.s17 _) ⟨hP0, hP1, ⟨_, hO⟩, hOD, hS, by omega, by omega⟩ (lv_sub hl [2, 3, 4, 5, 6, 7] rfl)
set_option maxHeartbeats 1000000 in
theorem c_queuedTask {p : Program} {l : Launch} {e : Env} {s : State} {m : MethodId} {args : Array Value} {below : List Frame} {meth : Method} {c : Code} {H : Heap} {locs : List Loc} {cells slots : Nat} {Q : State → Prop} {ls : Array Slot} {E : Ev} {dD : ClassId} {q0 q1 : Nat → Nat} {o od b L T C n : Nat} {xs : Nat → Int32} {i : Int32} {σ : St} (hst : l.stackTraces = false) (S0 : Fx p m c cL_law 9 s args RL) (K : LK E dD q0 q1 o od b L xs s) (hp : LPs T C n σ) (hh : LH E dD q0 q1 o od s n σ H locs cells slots) (hn : n < 512) (hl : lv_has ls 9 [(0, .ref b), (1, .ref (q0 0)), (2, .ref (q1 0)), (3, .ref o), (4, .ref od), (5, .int i)]) (hi1 : vp_in (i + 1) L) (hi2 : vp_in (i + 2) L) (hi3 : vp_in (i + 3) L)
    (hpl : (e_X0_queuedTask T C σ (xs (i + 1).toNatClampNeg) (xs (i + 2).toNatClampNeg)) = 0 → True → ∃ T1 C1 : Nat, LPs T1 C1 (n + 1) (sS σ 17 0))
    (kk : ∀ (T1 C1 : Nat) (σ1 : St) (H1 : Heap) (locs1 : List Loc) (c1 s1 : Nat) (ls : Array Slot), LPs T1 C1 (n + 1) σ1 → LH E dD q0 q1 o od s (n + 1) σ1 H1 locs1 c1 s1 → lv_has ls 9 [(0, .ref b), (1, .ref (q0 0)), (2, .ref (q1 0)), (3, .ref o), (4, .ref od), (5, .int i)] → W p l e room_1 s m args below meth c H1 locs1 c1 s1 Q (F0 m 1609 ls [])) : W p l e room_1 s m args below meth c H locs cells slots Q (F0 m 1361 ls []) := by
  obtain ⟨⟨hq0, hq1, hn0, hn1, hno, hnd⟩, ⟨h01, h0o, h1o, h0d, h1d, hod⟩, ⟨hX, hbl, hL⟩, hK, hKD, hXF, hNC⟩ := K
  obtain ⟨hP0, hP1, ⟨w0, hO⟩, hOD, hS, hcl, hsl⟩ := hh
  have hT := hp.1
  have hC := hp.2.1
  have hI := hp.2.2.1
  have hx := S0.1
  have hb := S0.2.1
  have hbA : ¬ An s b := Nat.not_le.mpr hbl
  refine lv_aload_n hx hb dL_law_1361 rfl (lv_at hl 1 rfl) ?_
  refine lv_aload_n hx hb dL_law_1362 rfl (lv_at hl 0 rfl) ?_
  refine lv_iload hx hb dL_law_1363 (lv_at hl 5 rfl) ?_
  refine lv_iconst (v := 1) hx hb dL_law_1365 (by decide) ?_
  refine lv_iadd hx hb dL_law_1366 ?_
  refine va_sld hx hb hX hbl hbA hS hi1 dL_law_1367 ?_
  refine lv_aload_n hx hb dL_law_1368 rfl (lv_at hl 0 rfl) ?_
  refine lv_iload hx hb dL_law_1369 (lv_at hl 5 rfl) ?_
  refine lv_iconst (v := 2) hx hb dL_law_1371 (by decide) ?_
  refine lv_iadd hx hb dL_law_1372 ?_
  refine va_sld hx hb hX hbl hbA hS hi2 dL_law_1373 ?_
  refine lv_aload_n hx hb dL_law_1374 rfl (lv_at hl 3 rfl) ?_
  by_cases he : (e_X0_queuedTask T C σ (xs (i + 1).toNatClampNeg) (xs (i + 2).toNatClampNeg)) = 0
  · have he0 : e_X0_queuedTask T C (sS σ 17 0) (xs (i + 1).toNatClampNeg) (xs (i + 2).toNatClampNeg) = 0 := he
    have hP00 : PP 0 E q0 (sS σ 17 0) H := hP0
    refine ch_N (h_queuedTask l E q0 hq0 hT hC (sS σ 17 0) (inv_sS ⟨by decide, by decide⟩ hI) o h0o (xs (i + 1).toNatClampNeg) (xs (i + 2).toNatClampNeg) he0) (gw_H ml_L_169 st_L_queuedTask ini_L cd_L_queuedTask) hd_L_queuedTask rfl ⟨rfl, rfl⟩ S0 hK hP00 hO hS (fun a h => h.elim (hn0 a) (fun e9 => by rw [e9]; exact hno)) (rest := []) rfl hl.1 (Nat.le_of_ble_eq_true rfl) ⟨(Nat.le_of_ble_eq_true rfl), (Nat.le_of_ble_eq_true rfl)⟩ ⟨by show _ ≤ 1067; omega, by show _ ≤ 8619; omega⟩ dL_law_1375 (fun H1 locs1 hP0 hO hS hz hk hex => ?_)
    have hP1 := hP1.kept (H1 := H1) (fun a ha h => hk a ha (fun h9 => h9.elim (fun h8 => h01 a h8 h) (fun e9 => h1o (by rw [← e9]; exact h))))
    have hOD := hOD.kept (H1 := H1) (hk od hOD.lt (fun h9 => h9.elim h0d (fun e9 => hod e9.symm)))
    refine lv_istore hx hb dL_law_1378 hl (by decide) rfl (fun ls hl => ?_)
    have hl : lv_has ls 9 [(6, .int 0), (0, .ref b), (1, .ref (q0 0)), (2, .ref (q1 0)), (3, .ref o), (4, .ref od), (5, .int i)] := hl
    refine lv_aload_n hx hb dL_law_1380 rfl (lv_at hl 3 rfl) ?_
    refine lv_aload_n hx hb dL_law_1381 rfl (lv_at hl 1 rfl) ?_
    refine lv_iload hx hb dL_law_1382 (lv_at hl 6 rfl) ?_
    refine lv_iconst (v := 1) hx hb dL_law_1384 (by decide) ?_
    refine lv_iadd hx hb dL_law_1385 ?_
    refine va_sld hx hb hX hbl hbA hS hi1 dL_law_1386 ?_
    refine lv_aload_n hx hb dL_law_1387 rfl (lv_at hl 1 rfl) ?_
    refine lv_iload hx hb dL_law_1388 (lv_at hl 6 rfl) ?_
    refine lv_iconst (v := 2) hx hb dL_law_1390 (by decide) ?_
    refine lv_iadd hx hb dL_law_1391 ?_
    refine va_sld hx hb hX hbl hbA hS hi2 dL_law_1392 ?_
    have hcs : cells ≤ room_1.cells ∧ slots ≤ room_1.slots := ⟨by show _ ≤ 1067; omega, by show _ ≤ 8619; omega⟩
    refine gl_WI (A := An s) (k_X1_queuedTask l E q1 hq1 hT hC σ hI (xs (i + 1).toNatClampNeg) (xs (i + 2).toNatClampNeg)) gw_L_171 hd_X1_queuedTask ⟨rfl, rfl⟩ S0 hK hP1 hS (fun a h => hn1 a h) (rest := []) rfl hl.1 (Nat.le_of_ble_eq_true rfl) ⟨(Nat.le_of_ble_eq_true rfl), (Nat.le_of_ble_eq_true rfl)⟩ hcs dL_law_1393 (fun H2 locs2 hP1 hS hz2 hk2 hex2 => ?_)
    obtain ⟨hg, hf, h17⟩ := (q_queuedTask hT hC hI (xs (i + 1).toNatClampNeg) (xs (i + 2).toNatClampNeg)).1 he
    rw [hg] at hP1
    rw [hf]
    have hP0 := hP0.kept (H1 := H2) (fun a ha h => hk2 a ha (h01 a h))
    have hO := hO.kept (H1 := H2) (hk2 o hO.lt h1o)
    have hOD := hOD.kept (H1 := H2) (hk2 od hOD.lt h1d)
    refine lv_istore hx hb dL_law_1396 hl (by decide) rfl (fun ls hl => ?_)
    have hl : lv_has ls 9 [(7, .int (f_X0_queuedTask T C (sS σ 17 0) (xs (i + 1).toNatClampNeg) (xs (i + 2).toNatClampNeg))), (6, .int 0), (0, .ref b), (1, .ref (q0 0)), (2, .ref (q1 0)), (3, .ref o), (4, .ref od), (5, .int i)] := hl
    refine lv_aload_n hx hb dL_law_1398 rfl (lv_at hl 4 rfl) ?_
    obtain ⟨T1, C1, hp1⟩ := hpl he hex
    refine cl_RI (k_X1_thrown l E q1 hq1 hp1.1 hp1.2.1 (sS σ 17 0) hp1.2.2.1) gw_L_99 hd_X1_thrown ⟨rfl, rfl⟩ S0 hK hP1 (rest := []) rfl hl.1 (Nat.le_of_ble_eq_true rfl) ⟨(Nat.le_of_ble_eq_true rfl), (Nat.le_of_ble_eq_true rfl)⟩ hcs dL_law_1399 (fun _ => ?_)
    rw [show f_X1_thrown T1 C1 (sS σ 17 0) = 0 from h17]
    refine lv_iload hx hb dL_law_1402 (lv_at hl 1 rfl) ?_
    refine lv_icmp_eq (tgt := 1409) hx hb dL_law_1404 (by decide) (fun _ => ?_) (fun h => absurd rfl h)
    refine lv_iload hx hb dL_law_1409 (lv_at hl 1 rfl) ?_
    refine lv_if_ne (tgt := 1426) hx hb dL_law_1411 (by decide) (fun h => absurd rfl h) (fun _ => ?_)
    obtain ⟨fo, hfo, hPO⟩ := hO
    refine lv_aload_n hx hb dL_law_1414 rfl (lv_at hl 5 rfl) ?_
    refine lv_iconst (v := 0) hx hb dL_law_1415 (by decide) ?_
    refine va_lald hx hb hK hPO 0 1 rfl rfl (by unfold vp_in; decide) dL_law_1416 ?_
    rw [show fo (0 : Int32).toNatClampNeg = (Int32.toInt64 (f_X0_queuedTask T C (sS σ 17 0) (xs (i + 1).toNatClampNeg) (xs (i + 2).toNatClampNeg))) from hfo]
    refine lv_iload hx hb dL_law_1417 (lv_at hl 0 rfl) ?_
    refine lv_i2l (v := (Int32.toInt64 (f_X0_queuedTask T C (sS σ 17 0) (xs (i + 1).toNatClampNeg) (xs (i + 2).toNatClampNeg)))) hx hb dL_law_1419 rfl ?_
    refine W.lcmp hx hb dL_law_1420 ?_
    rw [lgc]
    refine lv_if_eq (tgt := 1426) hx hb dL_law_1421 (by decide) (fun _ => ?_) (fun h => absurd rfl h)
    refine lv_goto (tgt := 1609) hx hb dL_law_1426 rfl ?_
    exact kk T1 C1 (sS σ 17 0) H2 locs2 cells slots ls hp1 ⟨hP0, hP1, ⟨_, fo, hfo, hPO⟩, hOD, hS, by omega, by omega⟩ (lv_sub hl [2, 3, 4, 5, 6, 7] rfl)
  · refine ch_T (x_queuedTask l hst E q0 hq0 hT hC σ hI o (xs (i + 1).toNatClampNeg) (xs (i + 2).toNatClampNeg) he) (gw_H ml_L_169 st_L_queuedTask ini_L cd_L_queuedTask) hd_L_queuedTask rfl ⟨rfl, rfl⟩ S0 hK hP0 hXF hNC hS (rest := []) rfl hl.1 (Nat.le_of_ble_eq_true rfl) ⟨(Nat.le_of_ble_eq_true rfl), (Nat.le_of_ble_eq_true rfl)⟩ ⟨by show _ ≤ 1067; omega, by show _ ≤ 8619; omega⟩ dL_law_1375 (fun H1 locs1 hS hz hk => ?_)
    have hP0 : PP 0 E q0 (sS σ 17 (e_X0_queuedTask T C σ (xs (i + 1).toNatClampNeg) (xs (i + 2).toNatClampNeg))) H1 := hP0.kept (H1 := H1) (fun a ha _ => hk a ha)
    have hP1 := hP1.kept (H1 := H1) (fun a ha _ => hk a ha)
    have hO := hO.kept (H1 := H1) (hk o hO.lt)
    have hOD := hOD.kept (H1 := H1) (hk od hOD.lt)
    refine lv_istore hx hb dL_law_1378 hl (by decide) rfl (fun ls hl => ?_)
    have hl : lv_has ls 9 [(6, .int (e_X0_queuedTask T C σ (xs (i + 1).toNatClampNeg) (xs (i + 2).toNatClampNeg))), (0, .ref b), (1, .ref (q0 0)), (2, .ref (q1 0)), (3, .ref o), (4, .ref od), (5, .int i)] := hl
    refine lv_aload_n hx hb dL_law_1380 rfl (lv_at hl 3 rfl) ?_
    refine lv_aload_n hx hb dL_law_1381 rfl (lv_at hl 1 rfl) ?_
    refine lv_iload hx hb dL_law_1382 (lv_at hl 6 rfl) ?_
    refine lv_iconst (v := 1) hx hb dL_law_1384 (by decide) ?_
    refine lv_iadd hx hb dL_law_1385 ?_
    refine va_sld hx hb hX hbl hbA hS hi1 dL_law_1386 ?_
    refine lv_aload_n hx hb dL_law_1387 rfl (lv_at hl 1 rfl) ?_
    refine lv_iload hx hb dL_law_1388 (lv_at hl 6 rfl) ?_
    refine lv_iconst (v := 2) hx hb dL_law_1390 (by decide) ?_
    refine lv_iadd hx hb dL_law_1391 ?_
    refine va_sld hx hb hX hbl hbA hS hi2 dL_law_1392 ?_
    have hcs : cells + 1 ≤ room_1.cells ∧ slots + 6 ≤ room_1.slots := ⟨by show _ ≤ 1067; omega, by show _ ≤ 8619; omega⟩
    refine gl_WI (A := An s) (k_X1_queuedTask l E q1 hq1 hT hC σ hI (xs (i + 1).toNatClampNeg) (xs (i + 2).toNatClampNeg)) gw_L_171 hd_X1_queuedTask ⟨rfl, rfl⟩ S0 hK hP1 hS (fun a h => hn1 a h) (rest := []) rfl hl.1 (Nat.le_of_ble_eq_true rfl) ⟨(Nat.le_of_ble_eq_true rfl), (Nat.le_of_ble_eq_true rfl)⟩ hcs dL_law_1393 (fun H2 locs2 hP1 hS hz2 hk2 hex2 => ?_)
    have hg := (q_queuedTask hT hC hI (xs (i + 1).toNatClampNeg) (xs (i + 2).toNatClampNeg)).2 he
    rw [hg] at hP1
    have hP0 := hP0.kept (H1 := H2) (fun a ha h => hk2 a ha (h01 a h))
    have hO := hO.kept (H1 := H2) (hk2 o hO.lt h1o)
    have hOD := hOD.kept (H1 := H2) (hk2 od hOD.lt h1d)
    refine lv_istore hx hb dL_law_1396 hl (by decide) rfl (fun ls hl => ?_)
    have hl : lv_has ls 9 [(7, .int (f_X1_queuedTask T C σ (xs (i + 1).toNatClampNeg) (xs (i + 2).toNatClampNeg))), (6, .int (e_X0_queuedTask T C σ (xs (i + 1).toNatClampNeg) (xs (i + 2).toNatClampNeg))), (0, .ref b), (1, .ref (q0 0)), (2, .ref (q1 0)), (3, .ref o), (4, .ref od), (5, .int i)] := hl
    refine lv_aload_n hx hb dL_law_1398 rfl (lv_at hl 4 rfl) ?_
    refine cl_RI (k_X1_thrown l E q1 hq1 (hp.s17 (e_X0_queuedTask T C σ (xs (i + 1).toNatClampNeg) (xs (i + 2).toNatClampNeg))).1 (hp.s17 (e_X0_queuedTask T C σ (xs (i + 1).toNatClampNeg) (xs (i + 2).toNatClampNeg))).2.1 (sS σ 17 (e_X0_queuedTask T C σ (xs (i + 1).toNatClampNeg) (xs (i + 2).toNatClampNeg))) (hp.s17 (e_X0_queuedTask T C σ (xs (i + 1).toNatClampNeg) (xs (i + 2).toNatClampNeg))).2.2.1) gw_L_99 hd_X1_thrown ⟨rfl, rfl⟩ S0 hK hP1 (rest := []) rfl hl.1 (Nat.le_of_ble_eq_true rfl) ⟨(Nat.le_of_ble_eq_true rfl), (Nat.le_of_ble_eq_true rfl)⟩ hcs dL_law_1399 (fun _ => ?_)
    rw [show f_X1_thrown T C (sS σ 17 (e_X0_queuedTask T C σ (xs (i + 1).toNatClampNeg) (xs (i + 2).toNatClampNeg))) = (e_X0_queuedTask T C σ (xs (i + 1).toNatClampNeg) (xs (i + 2).toNatClampNeg)) from rfl]
    refine lv_iload hx hb dL_law_1402 (lv_at hl 1 rfl) ?_
    refine lv_icmp_eq (tgt := 1409) hx hb dL_law_1404 (by decide) (fun _ => ?_) (fun h => absurd rfl h)
    refine lv_iload hx hb dL_law_1409 (lv_at hl 1 rfl) ?_
    refine lv_if_ne (tgt := 1426) hx hb dL_law_1411 (by decide) (fun _ => ?_) (fun h => absurd h he)
    refine lv_goto (tgt := 1609) hx hb dL_law_1426 rfl ?_
    exact kk T C (sS σ 17 (e_X0_queuedTask T C σ (xs (i + 1).toNatClampNeg) (xs (i + 2).toNatClampNeg))) H2 locs2 (cells + 1) (slots + 6) ls (hp.s17 _) ⟨hP0, hP1, ⟨_, hO⟩, hOD, hS, by omega, by omega⟩ (lv_sub hl [2, 3, 4, 5, 6, 7] rfl)
set_option maxHeartbeats 1000000 in
theorem c_baseOf {p : Program} {l : Launch} {e : Env} {s : State} {m : MethodId} {args : Array Value} {below : List Frame} {meth : Method} {c : Code} {H : Heap} {locs : List Loc} {cells slots : Nat} {Q : State → Prop} {ls : Array Slot} {E : Ev} {dD : ClassId} {q0 q1 : Nat → Nat} {o od b L T C n : Nat} {xs : Nat → Int32} {i : Int32} {σ : St} (hst : l.stackTraces = false) (S0 : Fx p m c cL_law 9 s args RL) (K : LK E dD q0 q1 o od b L xs s) (hp : LPs T C n σ) (hh : LH E dD q0 q1 o od s n σ H locs cells slots) (hn : n < 512) (hl : lv_has ls 9 [(0, .ref b), (1, .ref (q0 0)), (2, .ref (q1 0)), (3, .ref o), (4, .ref od), (5, .int i)]) (hi1 : vp_in (i + 1) L) (hi2 : vp_in (i + 2) L) (hi3 : vp_in (i + 3) L)
    (hpl : (e_X0_baseOf T C σ (xs (i + 1).toNatClampNeg)) = 0 → True → ∃ T1 C1 : Nat, LPs T1 C1 (n + 1) (sS σ 17 0))
    (kk : ∀ (T1 C1 : Nat) (σ1 : St) (H1 : Heap) (locs1 : List Loc) (c1 s1 : Nat) (ls : Array Slot), LPs T1 C1 (n + 1) σ1 → LH E dD q0 q1 o od s (n + 1) σ1 H1 locs1 c1 s1 → lv_has ls 9 [(0, .ref b), (1, .ref (q0 0)), (2, .ref (q1 0)), (3, .ref o), (4, .ref od), (5, .int i)] → W p l e room_1 s m args below meth c H1 locs1 c1 s1 Q (F0 m 1609 ls [])) : W p l e room_1 s m args below meth c H locs cells slots Q (F0 m 1429 ls []) := by
  obtain ⟨⟨hq0, hq1, hn0, hn1, hno, hnd⟩, ⟨h01, h0o, h1o, h0d, h1d, hod⟩, ⟨hX, hbl, hL⟩, hK, hKD, hXF, hNC⟩ := K
  obtain ⟨hP0, hP1, ⟨w0, hO⟩, hOD, hS, hcl, hsl⟩ := hh
  have hT := hp.1
  have hC := hp.2.1
  have hI := hp.2.2.1
  have hx := S0.1
  have hb := S0.2.1
  have hbA : ¬ An s b := Nat.not_le.mpr hbl
  refine lv_aload_n hx hb dL_law_1429 rfl (lv_at hl 1 rfl) ?_
  refine lv_aload_n hx hb dL_law_1430 rfl (lv_at hl 0 rfl) ?_
  refine lv_iload hx hb dL_law_1431 (lv_at hl 5 rfl) ?_
  refine lv_iconst (v := 1) hx hb dL_law_1433 (by decide) ?_
  refine lv_iadd hx hb dL_law_1434 ?_
  refine va_sld hx hb hX hbl hbA hS hi1 dL_law_1435 ?_
  refine lv_aload_n hx hb dL_law_1436 rfl (lv_at hl 3 rfl) ?_
  by_cases he : (e_X0_baseOf T C σ (xs (i + 1).toNatClampNeg)) = 0
  · have he0 : e_X0_baseOf T C (sS σ 17 0) (xs (i + 1).toNatClampNeg) = 0 := he
    have hP00 : PP 0 E q0 (sS σ 17 0) H := hP0
    refine ch_N (h_baseOf l E q0 hq0 hT hC (sS σ 17 0) (inv_sS ⟨by decide, by decide⟩ hI) o h0o (xs (i + 1).toNatClampNeg) he0) (gw_H ml_L_172 st_L_baseOf ini_L cd_L_baseOf) hd_L_baseOf rfl ⟨rfl, rfl⟩ S0 hK hP00 hO hS (fun a h => h.elim (hn0 a) (fun e9 => by rw [e9]; exact hno)) (rest := []) rfl hl.1 (Nat.le_of_ble_eq_true rfl) ⟨(Nat.le_of_ble_eq_true rfl), (Nat.le_of_ble_eq_true rfl)⟩ ⟨by show _ ≤ 1067; omega, by show _ ≤ 8619; omega⟩ dL_law_1437 (fun H1 locs1 hP0 hO hS hz hk hex => ?_)
    have hP1 := hP1.kept (H1 := H1) (fun a ha h => hk a ha (fun h9 => h9.elim (fun h8 => h01 a h8 h) (fun e9 => h1o (by rw [← e9]; exact h))))
    have hOD := hOD.kept (H1 := H1) (hk od hOD.lt (fun h9 => h9.elim h0d (fun e9 => hod e9.symm)))
    refine lv_istore hx hb dL_law_1440 hl (by decide) rfl (fun ls hl => ?_)
    have hl : lv_has ls 9 [(6, .int 0), (0, .ref b), (1, .ref (q0 0)), (2, .ref (q1 0)), (3, .ref o), (4, .ref od), (5, .int i)] := hl
    refine lv_aload_n hx hb dL_law_1442 rfl (lv_at hl 3 rfl) ?_
    refine lv_aload_n hx hb dL_law_1443 rfl (lv_at hl 1 rfl) ?_
    refine lv_iload hx hb dL_law_1444 (lv_at hl 6 rfl) ?_
    refine lv_iconst (v := 1) hx hb dL_law_1446 (by decide) ?_
    refine lv_iadd hx hb dL_law_1447 ?_
    refine va_sld hx hb hX hbl hbA hS hi1 dL_law_1448 ?_
    have hcs : cells ≤ room_1.cells ∧ slots ≤ room_1.slots := ⟨by show _ ≤ 1067; omega, by show _ ≤ 8619; omega⟩
    refine gl_WJ (A := An s) (k_X1_baseOf l E q1 hq1 hT hC σ hI (xs (i + 1).toNatClampNeg)) gw_L_174 hd_X1_baseOf ⟨rfl, rfl⟩ S0 hK hP1 hS (fun a h => hn1 a h) (rest := []) rfl hl.1 (Nat.le_of_ble_eq_true rfl) ⟨(Nat.le_of_ble_eq_true rfl), (Nat.le_of_ble_eq_true rfl)⟩ hcs dL_law_1449 (fun H2 locs2 hP1 hS hz2 hk2 hex2 => ?_)
    obtain ⟨hg, hf, h17⟩ := (q_baseOf hT hC hI (xs (i + 1).toNatClampNeg)).1 he
    rw [hg] at hP1
    rw [hf]
    have hP0 := hP0.kept (H1 := H2) (fun a ha h => hk2 a ha (h01 a h))
    have hO := hO.kept (H1 := H2) (hk2 o hO.lt h1o)
    have hOD := hOD.kept (H1 := H2) (hk2 od hOD.lt h1d)
    refine lv_lstore hx hb dL_law_1452 hl (by decide) rfl (fun ls hl => ?_)
    have hl : lv_has ls 9 [(7, .long (f_X0_baseOf T C (sS σ 17 0) (xs (i + 1).toNatClampNeg))), (6, .int 0), (0, .ref b), (1, .ref (q0 0)), (2, .ref (q1 0)), (3, .ref o), (4, .ref od), (5, .int i)] := hl
    refine lv_aload_n hx hb dL_law_1454 rfl (lv_at hl 4 rfl) ?_
    obtain ⟨T1, C1, hp1⟩ := hpl he hex
    refine cl_RI (k_X1_thrown l E q1 hq1 hp1.1 hp1.2.1 (sS σ 17 0) hp1.2.2.1) gw_L_99 hd_X1_thrown ⟨rfl, rfl⟩ S0 hK hP1 (rest := []) rfl hl.1 (Nat.le_of_ble_eq_true rfl) ⟨(Nat.le_of_ble_eq_true rfl), (Nat.le_of_ble_eq_true rfl)⟩ hcs dL_law_1455 (fun _ => ?_)
    rw [show f_X1_thrown T1 C1 (sS σ 17 0) = 0 from h17]
    refine lv_iload hx hb dL_law_1458 (lv_at hl 1 rfl) ?_
    refine lv_icmp_eq (tgt := 1465) hx hb dL_law_1460 (by decide) (fun _ => ?_) (fun h => absurd rfl h)
    refine lv_iload hx hb dL_law_1465 (lv_at hl 1 rfl) ?_
    refine lv_if_ne (tgt := 1481) hx hb dL_law_1467 (by decide) (fun h => absurd rfl h) (fun _ => ?_)
    obtain ⟨fo, hfo, hPO⟩ := hO
    refine lv_aload_n hx hb dL_law_1470 rfl (lv_at hl 5 rfl) ?_
    refine lv_iconst (v := 0) hx hb dL_law_1471 (by decide) ?_
    refine va_lald hx hb hK hPO 0 1 rfl rfl (by unfold vp_in; decide) dL_law_1472 ?_
    rw [show fo (0 : Int32).toNatClampNeg = (f_X0_baseOf T C (sS σ 17 0) (xs (i + 1).toNatClampNeg)) from hfo]
    refine lv_lload hx hb dL_law_1473 (lv_at hl 0 rfl) ?_
    refine W.lcmp hx hb dL_law_1475 ?_
    rw [lgc]
    refine lv_if_eq (tgt := 1481) hx hb dL_law_1476 (by decide) (fun _ => ?_) (fun h => absurd rfl h)
    refine lv_goto (tgt := 1609) hx hb dL_law_1481 rfl ?_
    exact kk T1 C1 (sS σ 17 0) H2 locs2 cells slots ls hp1 ⟨hP0, hP1, ⟨_, fo, hfo, hPO⟩, hOD, hS, by omega, by omega⟩ (lv_sub hl [2, 3, 4, 5, 6, 7] rfl)
  · refine ch_T (x_baseOf l hst E q0 hq0 hT hC σ hI o (xs (i + 1).toNatClampNeg) he) (gw_H ml_L_172 st_L_baseOf ini_L cd_L_baseOf) hd_L_baseOf rfl ⟨rfl, rfl⟩ S0 hK hP0 hXF hNC hS (rest := []) rfl hl.1 (Nat.le_of_ble_eq_true rfl) ⟨(Nat.le_of_ble_eq_true rfl), (Nat.le_of_ble_eq_true rfl)⟩ ⟨by show _ ≤ 1067; omega, by show _ ≤ 8619; omega⟩ dL_law_1437 (fun H1 locs1 hS hz hk => ?_)
    have hP0 : PP 0 E q0 (sS σ 17 (e_X0_baseOf T C σ (xs (i + 1).toNatClampNeg))) H1 := hP0.kept (H1 := H1) (fun a ha _ => hk a ha)
    have hP1 := hP1.kept (H1 := H1) (fun a ha _ => hk a ha)
    have hO := hO.kept (H1 := H1) (hk o hO.lt)
    have hOD := hOD.kept (H1 := H1) (hk od hOD.lt)
    refine lv_istore hx hb dL_law_1440 hl (by decide) rfl (fun ls hl => ?_)
    have hl : lv_has ls 9 [(6, .int (e_X0_baseOf T C σ (xs (i + 1).toNatClampNeg))), (0, .ref b), (1, .ref (q0 0)), (2, .ref (q1 0)), (3, .ref o), (4, .ref od), (5, .int i)] := hl
    refine lv_aload_n hx hb dL_law_1442 rfl (lv_at hl 3 rfl) ?_
    refine lv_aload_n hx hb dL_law_1443 rfl (lv_at hl 1 rfl) ?_
    refine lv_iload hx hb dL_law_1444 (lv_at hl 6 rfl) ?_
    refine lv_iconst (v := 1) hx hb dL_law_1446 (by decide) ?_
    refine lv_iadd hx hb dL_law_1447 ?_
    refine va_sld hx hb hX hbl hbA hS hi1 dL_law_1448 ?_
    have hcs : cells + 1 ≤ room_1.cells ∧ slots + 6 ≤ room_1.slots := ⟨by show _ ≤ 1067; omega, by show _ ≤ 8619; omega⟩
    refine gl_WJ (A := An s) (k_X1_baseOf l E q1 hq1 hT hC σ hI (xs (i + 1).toNatClampNeg)) gw_L_174 hd_X1_baseOf ⟨rfl, rfl⟩ S0 hK hP1 hS (fun a h => hn1 a h) (rest := []) rfl hl.1 (Nat.le_of_ble_eq_true rfl) ⟨(Nat.le_of_ble_eq_true rfl), (Nat.le_of_ble_eq_true rfl)⟩ hcs dL_law_1449 (fun H2 locs2 hP1 hS hz2 hk2 hex2 => ?_)
    have hg := (q_baseOf hT hC hI (xs (i + 1).toNatClampNeg)).2 he
    rw [hg] at hP1
    have hP0 := hP0.kept (H1 := H2) (fun a ha h => hk2 a ha (h01 a h))
    have hO := hO.kept (H1 := H2) (hk2 o hO.lt h1o)
    have hOD := hOD.kept (H1 := H2) (hk2 od hOD.lt h1d)
    refine lv_lstore hx hb dL_law_1452 hl (by decide) rfl (fun ls hl => ?_)
    have hl : lv_has ls 9 [(7, .long (f_X1_baseOf T C σ (xs (i + 1).toNatClampNeg))), (6, .int (e_X0_baseOf T C σ (xs (i + 1).toNatClampNeg))), (0, .ref b), (1, .ref (q0 0)), (2, .ref (q1 0)), (3, .ref o), (4, .ref od), (5, .int i)] := hl
    refine lv_aload_n hx hb dL_law_1454 rfl (lv_at hl 4 rfl) ?_
    refine cl_RI (k_X1_thrown l E q1 hq1 (hp.s17 (e_X0_baseOf T C σ (xs (i + 1).toNatClampNeg))).1 (hp.s17 (e_X0_baseOf T C σ (xs (i + 1).toNatClampNeg))).2.1 (sS σ 17 (e_X0_baseOf T C σ (xs (i + 1).toNatClampNeg))) (hp.s17 (e_X0_baseOf T C σ (xs (i + 1).toNatClampNeg))).2.2.1) gw_L_99 hd_X1_thrown ⟨rfl, rfl⟩ S0 hK hP1 (rest := []) rfl hl.1 (Nat.le_of_ble_eq_true rfl) ⟨(Nat.le_of_ble_eq_true rfl), (Nat.le_of_ble_eq_true rfl)⟩ hcs dL_law_1455 (fun _ => ?_)
    rw [show f_X1_thrown T C (sS σ 17 (e_X0_baseOf T C σ (xs (i + 1).toNatClampNeg))) = (e_X0_baseOf T C σ (xs (i + 1).toNatClampNeg)) from rfl]
    refine lv_iload hx hb dL_law_1458 (lv_at hl 1 rfl) ?_
    refine lv_icmp_eq (tgt := 1465) hx hb dL_law_1460 (by decide) (fun _ => ?_) (fun h => absurd rfl h)
    refine lv_iload hx hb dL_law_1465 (lv_at hl 1 rfl) ?_
    refine lv_if_ne (tgt := 1481) hx hb dL_law_1467 (by decide) (fun _ => ?_) (fun h => absurd h he)
    refine lv_goto (tgt := 1609) hx hb dL_law_1481 rfl ?_
    exact kk T C (sS σ 17 (e_X0_baseOf T C σ (xs (i + 1).toNatClampNeg))) H2 locs2 (cells + 1) (slots + 6) ls (hp.s17 _) ⟨hP0, hP1, ⟨_, hO⟩, hOD, hS, by omega, by omega⟩ (lv_sub hl [2, 3, 4, 5, 6, 7] rfl)
set_option maxHeartbeats 1000000 in
theorem c_idleTicks {p : Program} {l : Launch} {e : Env} {s : State} {m : MethodId} {args : Array Value} {below : List Frame} {meth : Method} {c : Code} {H : Heap} {locs : List Loc} {cells slots : Nat} {Q : State → Prop} {ls : Array Slot} {E : Ev} {dD : ClassId} {q0 q1 : Nat → Nat} {o od b L T C n : Nat} {xs : Nat → Int32} {i : Int32} {σ : St} (hst : l.stackTraces = false) (S0 : Fx p m c cL_law 9 s args RL) (K : LK E dD q0 q1 o od b L xs s) (hp : LPs T C n σ) (hh : LH E dD q0 q1 o od s n σ H locs cells slots) (hn : n < 512) (hl : lv_has ls 9 [(0, .ref b), (1, .ref (q0 0)), (2, .ref (q1 0)), (3, .ref o), (4, .ref od), (5, .int i)]) (hi1 : vp_in (i + 1) L) (hi2 : vp_in (i + 2) L) (hi3 : vp_in (i + 3) L)
    (hpl : (e_X0_idleTicks T C σ (xs (i + 1).toNatClampNeg)) = 0 → True → ∃ T1 C1 : Nat, LPs T1 C1 (n + 1) (sS σ 17 0))
    (kk : ∀ (T1 C1 : Nat) (σ1 : St) (H1 : Heap) (locs1 : List Loc) (c1 s1 : Nat) (ls : Array Slot), LPs T1 C1 (n + 1) σ1 → LH E dD q0 q1 o od s (n + 1) σ1 H1 locs1 c1 s1 → lv_has ls 9 [(0, .ref b), (1, .ref (q0 0)), (2, .ref (q1 0)), (3, .ref o), (4, .ref od), (5, .int i)] → W p l e room_1 s m args below meth c H1 locs1 c1 s1 Q (F0 m 1609 ls [])) : W p l e room_1 s m args below meth c H locs cells slots Q (F0 m 1484 ls []) := by
  obtain ⟨⟨hq0, hq1, hn0, hn1, hno, hnd⟩, ⟨h01, h0o, h1o, h0d, h1d, hod⟩, ⟨hX, hbl, hL⟩, hK, hKD, hXF, hNC⟩ := K
  obtain ⟨hP0, hP1, ⟨w0, hO⟩, hOD, hS, hcl, hsl⟩ := hh
  have hT := hp.1
  have hC := hp.2.1
  have hI := hp.2.2.1
  have hx := S0.1
  have hb := S0.2.1
  have hbA : ¬ An s b := Nat.not_le.mpr hbl
  refine lv_aload_n hx hb dL_law_1484 rfl (lv_at hl 1 rfl) ?_
  refine lv_aload_n hx hb dL_law_1485 rfl (lv_at hl 0 rfl) ?_
  refine lv_iload hx hb dL_law_1486 (lv_at hl 5 rfl) ?_
  refine lv_iconst (v := 1) hx hb dL_law_1488 (by decide) ?_
  refine lv_iadd hx hb dL_law_1489 ?_
  refine va_sld hx hb hX hbl hbA hS hi1 dL_law_1490 ?_
  refine lv_aload_n hx hb dL_law_1491 rfl (lv_at hl 3 rfl) ?_
  by_cases he : (e_X0_idleTicks T C σ (xs (i + 1).toNatClampNeg)) = 0
  · have he0 : e_X0_idleTicks T C (sS σ 17 0) (xs (i + 1).toNatClampNeg) = 0 := he
    have hP00 : PP 0 E q0 (sS σ 17 0) H := hP0
    refine ch_N (h_idleTicks l E q0 hq0 hT hC (sS σ 17 0) (inv_sS ⟨by decide, by decide⟩ hI) o h0o (xs (i + 1).toNatClampNeg) he0) (gw_H ml_L_175 st_L_idleTicks ini_L cd_L_idleTicks) hd_L_idleTicks rfl ⟨rfl, rfl⟩ S0 hK hP00 hO hS (fun a h => h.elim (hn0 a) (fun e9 => by rw [e9]; exact hno)) (rest := []) rfl hl.1 (Nat.le_of_ble_eq_true rfl) ⟨(Nat.le_of_ble_eq_true rfl), (Nat.le_of_ble_eq_true rfl)⟩ ⟨by show _ ≤ 1067; omega, by show _ ≤ 8619; omega⟩ dL_law_1492 (fun H1 locs1 hP0 hO hS hz hk hex => ?_)
    have hP1 := hP1.kept (H1 := H1) (fun a ha h => hk a ha (fun h9 => h9.elim (fun h8 => h01 a h8 h) (fun e9 => h1o (by rw [← e9]; exact h))))
    have hOD := hOD.kept (H1 := H1) (hk od hOD.lt (fun h9 => h9.elim h0d (fun e9 => hod e9.symm)))
    refine lv_istore hx hb dL_law_1495 hl (by decide) rfl (fun ls hl => ?_)
    have hl : lv_has ls 9 [(6, .int 0), (0, .ref b), (1, .ref (q0 0)), (2, .ref (q1 0)), (3, .ref o), (4, .ref od), (5, .int i)] := hl
    refine lv_aload_n hx hb dL_law_1497 rfl (lv_at hl 3 rfl) ?_
    refine lv_aload_n hx hb dL_law_1498 rfl (lv_at hl 1 rfl) ?_
    refine lv_iload hx hb dL_law_1499 (lv_at hl 6 rfl) ?_
    refine lv_iconst (v := 1) hx hb dL_law_1501 (by decide) ?_
    refine lv_iadd hx hb dL_law_1502 ?_
    refine va_sld hx hb hX hbl hbA hS hi1 dL_law_1503 ?_
    have hcs : cells ≤ room_1.cells ∧ slots ≤ room_1.slots := ⟨by show _ ≤ 1067; omega, by show _ ≤ 8619; omega⟩
    refine gl_WI (A := An s) (k_X1_idleTicks l E q1 hq1 hT hC σ hI (xs (i + 1).toNatClampNeg)) gw_L_177 hd_X1_idleTicks ⟨rfl, rfl⟩ S0 hK hP1 hS (fun a h => hn1 a h) (rest := []) rfl hl.1 (Nat.le_of_ble_eq_true rfl) ⟨(Nat.le_of_ble_eq_true rfl), (Nat.le_of_ble_eq_true rfl)⟩ hcs dL_law_1504 (fun H2 locs2 hP1 hS hz2 hk2 hex2 => ?_)
    obtain ⟨hg, hf, h17⟩ := (q_idleTicks hT hC hI (xs (i + 1).toNatClampNeg)).1 he
    rw [hg] at hP1
    rw [hf]
    have hP0 := hP0.kept (H1 := H2) (fun a ha h => hk2 a ha (h01 a h))
    have hO := hO.kept (H1 := H2) (hk2 o hO.lt h1o)
    have hOD := hOD.kept (H1 := H2) (hk2 od hOD.lt h1d)
    refine lv_istore hx hb dL_law_1507 hl (by decide) rfl (fun ls hl => ?_)
    have hl : lv_has ls 9 [(7, .int (f_X0_idleTicks T C (sS σ 17 0) (xs (i + 1).toNatClampNeg))), (6, .int 0), (0, .ref b), (1, .ref (q0 0)), (2, .ref (q1 0)), (3, .ref o), (4, .ref od), (5, .int i)] := hl
    refine lv_aload_n hx hb dL_law_1509 rfl (lv_at hl 4 rfl) ?_
    obtain ⟨T1, C1, hp1⟩ := hpl he hex
    refine cl_RI (k_X1_thrown l E q1 hq1 hp1.1 hp1.2.1 (sS σ 17 0) hp1.2.2.1) gw_L_99 hd_X1_thrown ⟨rfl, rfl⟩ S0 hK hP1 (rest := []) rfl hl.1 (Nat.le_of_ble_eq_true rfl) ⟨(Nat.le_of_ble_eq_true rfl), (Nat.le_of_ble_eq_true rfl)⟩ hcs dL_law_1510 (fun _ => ?_)
    rw [show f_X1_thrown T1 C1 (sS σ 17 0) = 0 from h17]
    refine lv_iload hx hb dL_law_1513 (lv_at hl 1 rfl) ?_
    refine lv_icmp_eq (tgt := 1520) hx hb dL_law_1515 (by decide) (fun _ => ?_) (fun h => absurd rfl h)
    refine lv_iload hx hb dL_law_1520 (lv_at hl 1 rfl) ?_
    refine lv_if_ne (tgt := 1537) hx hb dL_law_1522 (by decide) (fun h => absurd rfl h) (fun _ => ?_)
    obtain ⟨fo, hfo, hPO⟩ := hO
    refine lv_aload_n hx hb dL_law_1525 rfl (lv_at hl 5 rfl) ?_
    refine lv_iconst (v := 0) hx hb dL_law_1526 (by decide) ?_
    refine va_lald hx hb hK hPO 0 1 rfl rfl (by unfold vp_in; decide) dL_law_1527 ?_
    rw [show fo (0 : Int32).toNatClampNeg = (Int32.toInt64 (f_X0_idleTicks T C (sS σ 17 0) (xs (i + 1).toNatClampNeg))) from hfo]
    refine lv_iload hx hb dL_law_1528 (lv_at hl 0 rfl) ?_
    refine lv_i2l (v := (Int32.toInt64 (f_X0_idleTicks T C (sS σ 17 0) (xs (i + 1).toNatClampNeg)))) hx hb dL_law_1530 rfl ?_
    refine W.lcmp hx hb dL_law_1531 ?_
    rw [lgc]
    refine lv_if_eq (tgt := 1537) hx hb dL_law_1532 (by decide) (fun _ => ?_) (fun h => absurd rfl h)
    refine lv_goto (tgt := 1609) hx hb dL_law_1537 rfl ?_
    exact kk T1 C1 (sS σ 17 0) H2 locs2 cells slots ls hp1 ⟨hP0, hP1, ⟨_, fo, hfo, hPO⟩, hOD, hS, by omega, by omega⟩ (lv_sub hl [2, 3, 4, 5, 6, 7] rfl)
  · refine ch_T (x_idleTicks l hst E q0 hq0 hT hC σ hI o (xs (i + 1).toNatClampNeg) he) (gw_H ml_L_175 st_L_idleTicks ini_L cd_L_idleTicks) hd_L_idleTicks rfl ⟨rfl, rfl⟩ S0 hK hP0 hXF hNC hS (rest := []) rfl hl.1 (Nat.le_of_ble_eq_true rfl) ⟨(Nat.le_of_ble_eq_true rfl), (Nat.le_of_ble_eq_true rfl)⟩ ⟨by show _ ≤ 1067; omega, by show _ ≤ 8619; omega⟩ dL_law_1492 (fun H1 locs1 hS hz hk => ?_)
    have hP0 : PP 0 E q0 (sS σ 17 (e_X0_idleTicks T C σ (xs (i + 1).toNatClampNeg))) H1 := hP0.kept (H1 := H1) (fun a ha _ => hk a ha)
    have hP1 := hP1.kept (H1 := H1) (fun a ha _ => hk a ha)
    have hO := hO.kept (H1 := H1) (hk o hO.lt)
    have hOD := hOD.kept (H1 := H1) (hk od hOD.lt)
    refine lv_istore hx hb dL_law_1495 hl (by decide) rfl (fun ls hl => ?_)
    have hl : lv_has ls 9 [(6, .int (e_X0_idleTicks T C σ (xs (i + 1).toNatClampNeg))), (0, .ref b), (1, .ref (q0 0)), (2, .ref (q1 0)), (3, .ref o), (4, .ref od), (5, .int i)] := hl
    refine lv_aload_n hx hb dL_law_1497 rfl (lv_at hl 3 rfl) ?_
    refine lv_aload_n hx hb dL_law_1498 rfl (lv_at hl 1 rfl) ?_
    refine lv_iload hx hb dL_law_1499 (lv_at hl 6 rfl) ?_
    refine lv_iconst (v := 1) hx hb dL_law_1501 (by decide) ?_
    refine lv_iadd hx hb dL_law_1502 ?_
    refine va_sld hx hb hX hbl hbA hS hi1 dL_law_1503 ?_
    have hcs : cells + 1 ≤ room_1.cells ∧ slots + 6 ≤ room_1.slots := ⟨by show _ ≤ 1067; omega, by show _ ≤ 8619; omega⟩
    refine gl_WI (A := An s) (k_X1_idleTicks l E q1 hq1 hT hC σ hI (xs (i + 1).toNatClampNeg)) gw_L_177 hd_X1_idleTicks ⟨rfl, rfl⟩ S0 hK hP1 hS (fun a h => hn1 a h) (rest := []) rfl hl.1 (Nat.le_of_ble_eq_true rfl) ⟨(Nat.le_of_ble_eq_true rfl), (Nat.le_of_ble_eq_true rfl)⟩ hcs dL_law_1504 (fun H2 locs2 hP1 hS hz2 hk2 hex2 => ?_)
    have hg := (q_idleTicks hT hC hI (xs (i + 1).toNatClampNeg)).2 he
    rw [hg] at hP1
    have hP0 := hP0.kept (H1 := H2) (fun a ha h => hk2 a ha (h01 a h))
    have hO := hO.kept (H1 := H2) (hk2 o hO.lt h1o)
    have hOD := hOD.kept (H1 := H2) (hk2 od hOD.lt h1d)
    refine lv_istore hx hb dL_law_1507 hl (by decide) rfl (fun ls hl => ?_)
    have hl : lv_has ls 9 [(7, .int (f_X1_idleTicks T C σ (xs (i + 1).toNatClampNeg))), (6, .int (e_X0_idleTicks T C σ (xs (i + 1).toNatClampNeg))), (0, .ref b), (1, .ref (q0 0)), (2, .ref (q1 0)), (3, .ref o), (4, .ref od), (5, .int i)] := hl
    refine lv_aload_n hx hb dL_law_1509 rfl (lv_at hl 4 rfl) ?_
    refine cl_RI (k_X1_thrown l E q1 hq1 (hp.s17 (e_X0_idleTicks T C σ (xs (i + 1).toNatClampNeg))).1 (hp.s17 (e_X0_idleTicks T C σ (xs (i + 1).toNatClampNeg))).2.1 (sS σ 17 (e_X0_idleTicks T C σ (xs (i + 1).toNatClampNeg))) (hp.s17 (e_X0_idleTicks T C σ (xs (i + 1).toNatClampNeg))).2.2.1) gw_L_99 hd_X1_thrown ⟨rfl, rfl⟩ S0 hK hP1 (rest := []) rfl hl.1 (Nat.le_of_ble_eq_true rfl) ⟨(Nat.le_of_ble_eq_true rfl), (Nat.le_of_ble_eq_true rfl)⟩ hcs dL_law_1510 (fun _ => ?_)
    rw [show f_X1_thrown T C (sS σ 17 (e_X0_idleTicks T C σ (xs (i + 1).toNatClampNeg))) = (e_X0_idleTicks T C σ (xs (i + 1).toNatClampNeg)) from rfl]
    refine lv_iload hx hb dL_law_1513 (lv_at hl 1 rfl) ?_
    refine lv_icmp_eq (tgt := 1520) hx hb dL_law_1515 (by decide) (fun _ => ?_) (fun h => absurd rfl h)
    refine lv_iload hx hb dL_law_1520 (lv_at hl 1 rfl) ?_
    refine lv_if_ne (tgt := 1537) hx hb dL_law_1522 (by decide) (fun _ => ?_) (fun h => absurd h he)
    refine lv_goto (tgt := 1609) hx hb dL_law_1537 rfl ?_
    exact kk T C (sS σ 17 (e_X0_idleTicks T C σ (xs (i + 1).toNatClampNeg))) H2 locs2 (cells + 1) (slots + 6) ls (hp.s17 _) ⟨hP0, hP1, ⟨_, hO⟩, hOD, hS, by omega, by omega⟩ (lv_sub hl [2, 3, 4, 5, 6, 7] rfl)
set_option maxHeartbeats 1000000 in
theorem c_forcedIdleTicks {p : Program} {l : Launch} {e : Env} {s : State} {m : MethodId} {args : Array Value} {below : List Frame} {meth : Method} {c : Code} {H : Heap} {locs : List Loc} {cells slots : Nat} {Q : State → Prop} {ls : Array Slot} {E : Ev} {dD : ClassId} {q0 q1 : Nat → Nat} {o od b L T C n : Nat} {xs : Nat → Int32} {i : Int32} {σ : St} (hst : l.stackTraces = false) (S0 : Fx p m c cL_law 9 s args RL) (K : LK E dD q0 q1 o od b L xs s) (hp : LPs T C n σ) (hh : LH E dD q0 q1 o od s n σ H locs cells slots) (hn : n < 512) (hl : lv_has ls 9 [(0, .ref b), (1, .ref (q0 0)), (2, .ref (q1 0)), (3, .ref o), (4, .ref od), (5, .int i)]) (hi1 : vp_in (i + 1) L) (hi2 : vp_in (i + 2) L) (hi3 : vp_in (i + 3) L)
    (hpl : (e_X0_forcedIdleTicks T C σ (xs (i + 1).toNatClampNeg)) = 0 → True → ∃ T1 C1 : Nat, LPs T1 C1 (n + 1) (sS σ 17 0))
    (kk : ∀ (T1 C1 : Nat) (σ1 : St) (H1 : Heap) (locs1 : List Loc) (c1 s1 : Nat) (ls : Array Slot), LPs T1 C1 (n + 1) σ1 → LH E dD q0 q1 o od s (n + 1) σ1 H1 locs1 c1 s1 → lv_has ls 9 [(0, .ref b), (1, .ref (q0 0)), (2, .ref (q1 0)), (3, .ref o), (4, .ref od), (5, .int i)] → W p l e room_1 s m args below meth c H1 locs1 c1 s1 Q (F0 m 1609 ls [])) : W p l e room_1 s m args below meth c H locs cells slots Q (F0 m 1540 ls []) := by
  obtain ⟨⟨hq0, hq1, hn0, hn1, hno, hnd⟩, ⟨h01, h0o, h1o, h0d, h1d, hod⟩, ⟨hX, hbl, hL⟩, hK, hKD, hXF, hNC⟩ := K
  obtain ⟨hP0, hP1, ⟨w0, hO⟩, hOD, hS, hcl, hsl⟩ := hh
  have hT := hp.1
  have hC := hp.2.1
  have hI := hp.2.2.1
  have hx := S0.1
  have hb := S0.2.1
  have hbA : ¬ An s b := Nat.not_le.mpr hbl
  refine lv_aload_n hx hb dL_law_1540 rfl (lv_at hl 1 rfl) ?_
  refine lv_aload_n hx hb dL_law_1541 rfl (lv_at hl 0 rfl) ?_
  refine lv_iload hx hb dL_law_1542 (lv_at hl 5 rfl) ?_
  refine lv_iconst (v := 1) hx hb dL_law_1544 (by decide) ?_
  refine lv_iadd hx hb dL_law_1545 ?_
  refine va_sld hx hb hX hbl hbA hS hi1 dL_law_1546 ?_
  refine lv_aload_n hx hb dL_law_1547 rfl (lv_at hl 3 rfl) ?_
  by_cases he : (e_X0_forcedIdleTicks T C σ (xs (i + 1).toNatClampNeg)) = 0
  · have he0 : e_X0_forcedIdleTicks T C (sS σ 17 0) (xs (i + 1).toNatClampNeg) = 0 := he
    have hP00 : PP 0 E q0 (sS σ 17 0) H := hP0
    refine ch_N (h_forcedIdleTicks l E q0 hq0 hT hC (sS σ 17 0) (inv_sS ⟨by decide, by decide⟩ hI) o h0o (xs (i + 1).toNatClampNeg) he0) (gw_H ml_L_178 st_L_forcedIdleTicks ini_L cd_L_forcedIdleTicks) hd_L_forcedIdleTicks rfl ⟨rfl, rfl⟩ S0 hK hP00 hO hS (fun a h => h.elim (hn0 a) (fun e9 => by rw [e9]; exact hno)) (rest := []) rfl hl.1 (Nat.le_of_ble_eq_true rfl) ⟨(Nat.le_of_ble_eq_true rfl), (Nat.le_of_ble_eq_true rfl)⟩ ⟨by show _ ≤ 1067; omega, by show _ ≤ 8619; omega⟩ dL_law_1548 (fun H1 locs1 hP0 hO hS hz hk hex => ?_)
    have hP1 := hP1.kept (H1 := H1) (fun a ha h => hk a ha (fun h9 => h9.elim (fun h8 => h01 a h8 h) (fun e9 => h1o (by rw [← e9]; exact h))))
    have hOD := hOD.kept (H1 := H1) (hk od hOD.lt (fun h9 => h9.elim h0d (fun e9 => hod e9.symm)))
    refine lv_istore hx hb dL_law_1551 hl (by decide) rfl (fun ls hl => ?_)
    have hl : lv_has ls 9 [(6, .int 0), (0, .ref b), (1, .ref (q0 0)), (2, .ref (q1 0)), (3, .ref o), (4, .ref od), (5, .int i)] := hl
    refine lv_aload_n hx hb dL_law_1553 rfl (lv_at hl 3 rfl) ?_
    refine lv_aload_n hx hb dL_law_1554 rfl (lv_at hl 1 rfl) ?_
    refine lv_iload hx hb dL_law_1555 (lv_at hl 6 rfl) ?_
    refine lv_iconst (v := 1) hx hb dL_law_1557 (by decide) ?_
    refine lv_iadd hx hb dL_law_1558 ?_
    refine va_sld hx hb hX hbl hbA hS hi1 dL_law_1559 ?_
    have hcs : cells ≤ room_1.cells ∧ slots ≤ room_1.slots := ⟨by show _ ≤ 1067; omega, by show _ ≤ 8619; omega⟩
    refine gl_WI (A := An s) (k_X1_forcedIdleTicks l E q1 hq1 hT hC σ hI (xs (i + 1).toNatClampNeg)) gw_L_180 hd_X1_forcedIdleTicks ⟨rfl, rfl⟩ S0 hK hP1 hS (fun a h => hn1 a h) (rest := []) rfl hl.1 (Nat.le_of_ble_eq_true rfl) ⟨(Nat.le_of_ble_eq_true rfl), (Nat.le_of_ble_eq_true rfl)⟩ hcs dL_law_1560 (fun H2 locs2 hP1 hS hz2 hk2 hex2 => ?_)
    obtain ⟨hg, hf, h17⟩ := (q_forcedIdleTicks hT hC hI (xs (i + 1).toNatClampNeg)).1 he
    rw [hg] at hP1
    rw [hf]
    have hP0 := hP0.kept (H1 := H2) (fun a ha h => hk2 a ha (h01 a h))
    have hO := hO.kept (H1 := H2) (hk2 o hO.lt h1o)
    have hOD := hOD.kept (H1 := H2) (hk2 od hOD.lt h1d)
    refine lv_istore hx hb dL_law_1563 hl (by decide) rfl (fun ls hl => ?_)
    have hl : lv_has ls 9 [(7, .int (f_X0_forcedIdleTicks T C (sS σ 17 0) (xs (i + 1).toNatClampNeg))), (6, .int 0), (0, .ref b), (1, .ref (q0 0)), (2, .ref (q1 0)), (3, .ref o), (4, .ref od), (5, .int i)] := hl
    refine lv_aload_n hx hb dL_law_1565 rfl (lv_at hl 4 rfl) ?_
    obtain ⟨T1, C1, hp1⟩ := hpl he hex
    refine cl_RI (k_X1_thrown l E q1 hq1 hp1.1 hp1.2.1 (sS σ 17 0) hp1.2.2.1) gw_L_99 hd_X1_thrown ⟨rfl, rfl⟩ S0 hK hP1 (rest := []) rfl hl.1 (Nat.le_of_ble_eq_true rfl) ⟨(Nat.le_of_ble_eq_true rfl), (Nat.le_of_ble_eq_true rfl)⟩ hcs dL_law_1566 (fun _ => ?_)
    rw [show f_X1_thrown T1 C1 (sS σ 17 0) = 0 from h17]
    refine lv_iload hx hb dL_law_1569 (lv_at hl 1 rfl) ?_
    refine lv_icmp_eq (tgt := 1576) hx hb dL_law_1571 (by decide) (fun _ => ?_) (fun h => absurd rfl h)
    refine lv_iload hx hb dL_law_1576 (lv_at hl 1 rfl) ?_
    refine lv_if_ne (tgt := 1593) hx hb dL_law_1578 (by decide) (fun h => absurd rfl h) (fun _ => ?_)
    obtain ⟨fo, hfo, hPO⟩ := hO
    refine lv_aload_n hx hb dL_law_1581 rfl (lv_at hl 5 rfl) ?_
    refine lv_iconst (v := 0) hx hb dL_law_1582 (by decide) ?_
    refine va_lald hx hb hK hPO 0 1 rfl rfl (by unfold vp_in; decide) dL_law_1583 ?_
    rw [show fo (0 : Int32).toNatClampNeg = (Int32.toInt64 (f_X0_forcedIdleTicks T C (sS σ 17 0) (xs (i + 1).toNatClampNeg))) from hfo]
    refine lv_iload hx hb dL_law_1584 (lv_at hl 0 rfl) ?_
    refine lv_i2l (v := (Int32.toInt64 (f_X0_forcedIdleTicks T C (sS σ 17 0) (xs (i + 1).toNatClampNeg)))) hx hb dL_law_1586 rfl ?_
    refine W.lcmp hx hb dL_law_1587 ?_
    rw [lgc]
    refine lv_if_eq (tgt := 1593) hx hb dL_law_1588 (by decide) (fun _ => ?_) (fun h => absurd rfl h)
    refine lv_goto (tgt := 1609) hx hb dL_law_1593 rfl ?_
    exact kk T1 C1 (sS σ 17 0) H2 locs2 cells slots ls hp1 ⟨hP0, hP1, ⟨_, fo, hfo, hPO⟩, hOD, hS, by omega, by omega⟩ (lv_sub hl [2, 3, 4, 5, 6, 7] rfl)
  · refine ch_T (x_forcedIdleTicks l hst E q0 hq0 hT hC σ hI o (xs (i + 1).toNatClampNeg) he) (gw_H ml_L_178 st_L_forcedIdleTicks ini_L cd_L_forcedIdleTicks) hd_L_forcedIdleTicks rfl ⟨rfl, rfl⟩ S0 hK hP0 hXF hNC hS (rest := []) rfl hl.1 (Nat.le_of_ble_eq_true rfl) ⟨(Nat.le_of_ble_eq_true rfl), (Nat.le_of_ble_eq_true rfl)⟩ ⟨by show _ ≤ 1067; omega, by show _ ≤ 8619; omega⟩ dL_law_1548 (fun H1 locs1 hS hz hk => ?_)
    have hP0 : PP 0 E q0 (sS σ 17 (e_X0_forcedIdleTicks T C σ (xs (i + 1).toNatClampNeg))) H1 := hP0.kept (H1 := H1) (fun a ha _ => hk a ha)
    have hP1 := hP1.kept (H1 := H1) (fun a ha _ => hk a ha)
    have hO := hO.kept (H1 := H1) (hk o hO.lt)
    have hOD := hOD.kept (H1 := H1) (hk od hOD.lt)
    refine lv_istore hx hb dL_law_1551 hl (by decide) rfl (fun ls hl => ?_)
    have hl : lv_has ls 9 [(6, .int (e_X0_forcedIdleTicks T C σ (xs (i + 1).toNatClampNeg))), (0, .ref b), (1, .ref (q0 0)), (2, .ref (q1 0)), (3, .ref o), (4, .ref od), (5, .int i)] := hl
    refine lv_aload_n hx hb dL_law_1553 rfl (lv_at hl 3 rfl) ?_
    refine lv_aload_n hx hb dL_law_1554 rfl (lv_at hl 1 rfl) ?_
    refine lv_iload hx hb dL_law_1555 (lv_at hl 6 rfl) ?_
    refine lv_iconst (v := 1) hx hb dL_law_1557 (by decide) ?_
    refine lv_iadd hx hb dL_law_1558 ?_
    refine va_sld hx hb hX hbl hbA hS hi1 dL_law_1559 ?_
    have hcs : cells + 1 ≤ room_1.cells ∧ slots + 6 ≤ room_1.slots := ⟨by show _ ≤ 1067; omega, by show _ ≤ 8619; omega⟩
    refine gl_WI (A := An s) (k_X1_forcedIdleTicks l E q1 hq1 hT hC σ hI (xs (i + 1).toNatClampNeg)) gw_L_180 hd_X1_forcedIdleTicks ⟨rfl, rfl⟩ S0 hK hP1 hS (fun a h => hn1 a h) (rest := []) rfl hl.1 (Nat.le_of_ble_eq_true rfl) ⟨(Nat.le_of_ble_eq_true rfl), (Nat.le_of_ble_eq_true rfl)⟩ hcs dL_law_1560 (fun H2 locs2 hP1 hS hz2 hk2 hex2 => ?_)
    have hg := (q_forcedIdleTicks hT hC hI (xs (i + 1).toNatClampNeg)).2 he
    rw [hg] at hP1
    have hP0 := hP0.kept (H1 := H2) (fun a ha h => hk2 a ha (h01 a h))
    have hO := hO.kept (H1 := H2) (hk2 o hO.lt h1o)
    have hOD := hOD.kept (H1 := H2) (hk2 od hOD.lt h1d)
    refine lv_istore hx hb dL_law_1563 hl (by decide) rfl (fun ls hl => ?_)
    have hl : lv_has ls 9 [(7, .int (f_X1_forcedIdleTicks T C σ (xs (i + 1).toNatClampNeg))), (6, .int (e_X0_forcedIdleTicks T C σ (xs (i + 1).toNatClampNeg))), (0, .ref b), (1, .ref (q0 0)), (2, .ref (q1 0)), (3, .ref o), (4, .ref od), (5, .int i)] := hl
    refine lv_aload_n hx hb dL_law_1565 rfl (lv_at hl 4 rfl) ?_
    refine cl_RI (k_X1_thrown l E q1 hq1 (hp.s17 (e_X0_forcedIdleTicks T C σ (xs (i + 1).toNatClampNeg))).1 (hp.s17 (e_X0_forcedIdleTicks T C σ (xs (i + 1).toNatClampNeg))).2.1 (sS σ 17 (e_X0_forcedIdleTicks T C σ (xs (i + 1).toNatClampNeg))) (hp.s17 (e_X0_forcedIdleTicks T C σ (xs (i + 1).toNatClampNeg))).2.2.1) gw_L_99 hd_X1_thrown ⟨rfl, rfl⟩ S0 hK hP1 (rest := []) rfl hl.1 (Nat.le_of_ble_eq_true rfl) ⟨(Nat.le_of_ble_eq_true rfl), (Nat.le_of_ble_eq_true rfl)⟩ hcs dL_law_1566 (fun _ => ?_)
    rw [show f_X1_thrown T C (sS σ 17 (e_X0_forcedIdleTicks T C σ (xs (i + 1).toNatClampNeg))) = (e_X0_forcedIdleTicks T C σ (xs (i + 1).toNatClampNeg)) from rfl]
    refine lv_iload hx hb dL_law_1569 (lv_at hl 1 rfl) ?_
    refine lv_icmp_eq (tgt := 1576) hx hb dL_law_1571 (by decide) (fun _ => ?_) (fun h => absurd rfl h)
    refine lv_iload hx hb dL_law_1576 (lv_at hl 1 rfl) ?_
    refine lv_if_ne (tgt := 1593) hx hb dL_law_1578 (by decide) (fun _ => ?_) (fun h => absurd h he)
    refine lv_goto (tgt := 1609) hx hb dL_law_1593 rfl ?_
    exact kk T C (sS σ 17 (e_X0_forcedIdleTicks T C σ (xs (i + 1).toNatClampNeg))) H2 locs2 (cells + 1) (slots + 6) ls (hp.s17 _) ⟨hP0, hP1, ⟨_, hO⟩, hOD, hS, by omega, by omega⟩ (lv_sub hl [2, 3, 4, 5, 6, 7] rfl)
