/-! one turn of the law's loop -/
def OD (E : Ev) (dD : ClassId) (o : Nat) (H : Heap) : Prop := ∃ f : Nat → UInt64, va_P E.1 vwCl [(o, .inl (dD, 1, .inr (.inr (.inr (.inl f)))))] H
theorem OD.kept {E : Ev} {dD : ClassId} {o : Nat} {H H1 : Heap} (h : OD E dD o H) (hk : H1[o]? = H[o]?) : OD E dD o H1 := by
  obtain ⟨f, hP⟩ := h
  exact ⟨f, hP.kept (fun k q hq => by
    match k, hq with
    | 0, hq => cases hq; exact hk
    | k + 1, hq => simp at hq)⟩
theorem OD.lt {E : Ev} {dD : ClassId} {o : Nat} {H : Heap} (h : OD E dD o H) : o < H.size := by
  obtain ⟨f, hP⟩ := h
  exact vx_lt hP (k := 0) rfl
def Rw (N : Nat) (σ : St) : Prop := ∀ k : Nat, ∃ a b : Nat, σ.1 5 k = nI a ∧ σ.1 6 k = nI b ∧ a + b ≤ N
theorem Rw.mono {N M : Nat} {σ : St} (h : Rw N σ) (hm : N ≤ M) : Rw M σ := fun k => by
  obtain ⟨a, b, h1, h2, h3⟩ := h k
  exact ⟨a, b, h1, h2, Nat.le_trans h3 hm⟩
abbrev An (s : State) : Nat → Prop := fun a => s.heap.size ≤ a
/-- what stays through the law -/
def LK (E : Ev) (dD : ClassId) (q0 q1 : Nat → Nat) (o od b L : Nat) (xs : Nat → Int32) (s : State) : Prop := (Dq q0 ∧ Dq q1 ∧ (∀ a, Aq q0 a → s.heap.size ≤ a) ∧ (∀ a, Aq q1 a → s.heap.size ≤ a) ∧ s.heap.size ≤ o ∧ s.heap.size ≤ od) ∧ ((∀ a, Aq q0 a → ¬ Aq q1 a) ∧ ¬ Aq q0 o ∧ ¬ Aq q1 o ∧ ¬ Aq q0 od ∧ ¬ Aq q1 od ∧ o ≠ od) ∧ (va_X b L xs s s.heap ∧ b < s.heap.size ∧ L ≤ 2048) ∧ KK E s ∧ va_K E.1 vwCl [(dD, .double)] s ∧ XF q0 s ∧ NC s
/-- the numbers between two calls -/
def LP (T C n : Nat) (σ : St) : Prop := T ≤ 16 ∧ (1 ≤ C ∧ C ≤ 4) ∧ Inv T C σ ∧ (σ.2.2 16 = 0 ∨ σ.2.2 16 = 1) ∧ Rw (100 * n) σ
theorem LP.s17 {T C n : Nat} {σ : St} (c : Int32) (h : LP T C n σ) : LP T C (n + 1) (sS σ 17 c) := ⟨h.1, h.2.1, inv_sS ⟨by decide, by decide⟩ h.2.2.1, h.2.2.2.1, Rw.mono (σ := sS σ 17 c) (fun k => h.2.2.2.2 k) (by omega)⟩
/-- the heap between two calls -/
def LH (E : Ev) (dD : ClassId) (q0 q1 : Nat → Nat) (o od : Nat) (s : State) (n : Nat) (σ : St) (H : Heap) (locs : List Loc) (cells slots : Nat) : Prop := PP 0 E q0 σ H ∧ PP 1 E q1 σ H ∧ (∃ w, OJ E o w H) ∧ OD E dD od H ∧ va_S (An s) s.heap H locs ∧ cells ≤ 30 + n ∧ slots ≤ 349 + 6 * n
theorem lgc (x : Int64) : lg_cmp x x = 0 := by
  unfold lg_cmp
  simp
theorem preN_blind {E : Ev} {q : Nat → Nat} {σ : St} {o : Nat} {As : List Value} : FrameBlind (preN E q σ o As) := fun _ _ _ _ h => ⟨h.1, h.2.1, KK.moved (Vm.Alike.refl _) h.2.2⟩
theorem preT_blind {E : Ev} {q : Nat → Nat} {σ : St} {o : Nat} {As : List Value} : FrameBlind (preT E q σ o As) := fun _ _ _ _ h => ⟨h.1, h.2.1, KK.moved (Vm.Alike.refl _) h.2.2.1, h.2.2.2.1.calling, h.2.2.2.2.moved (Vm.Alike.refl _)⟩
section LC
variable {p : Program} {l : Launch} {e : Env} {R : Room} {s : State} {m : MethodId} {args : Array Value} {below : List Frame} {meth : Method} {c : Code} {H H0 : Heap} {locs : List Loc} {cells slots : Nat} {Q : State → Prop}
variable {cc bytes : ByteArray} {pc idx nL maxL N : Nat} {ls : Array Slot} {rest st0 As : List Value} {E : Ev} {q : Nat → Nat} {σ σ' : St} {y : MethodName} {rm : Room} {own C : String} {r : Int32} {w v : Int64} {ex : Prop} {o : Nat} {A : Nat → Prop} {hh : List (Nat × Nat × Nat × Nat)}
theorem ch_N (hM : HN l E q σ o y bytes maxL hh rm As v σ' ex) (hg : GoodIn lw_all (va_wsS own idx y (wsH y bytes maxL hh))) (hd : hdT y C N) (hN : (Value.ref (q 0) :: (As ++ [.ref o])).length = N) (hrm : rm.cells = 0 ∧ rm.slots = 0) (S : Fx p m c cc nL s args own) (hK : KK E s) (hP : PP 0 E q σ H) (hO : OJ E o w H) (hS : va_S A H0 H locs) (hA : ∀ a, Ao q o a → A a) (hst : st0 = (Value.ref (q 0) :: (As ++ [.ref o])).reverse ++ rest) (hsz : ls.size = nL) (hw : (rest.map fun v => v.category).sum ≤ 8) (hR : rm.frames + 1 ≤ R.frames ∧ 8 + (maxL + 11) + rm.locals ≤ R.locals) (hcs : cells ≤ R.cells ∧ slots ≤ R.slots) (hdg : decode cc pc = .ok (.invokestatic idx, 3))
    (kk : ∀ (H1 : Heap) (locs1 : List Loc), PP 0 E q σ' H1 → OJ E o v H1 → va_S A H0 H1 locs1 → H.size ≤ H1.size → (∀ a : Nat, a < H.size → ¬ Ao q o a → H1[a]? = H[a]?) → ex → W p l e R s m args below meth c H1 locs1 cells slots Q (F0 m (pc + 3) ls (.int 0 :: rest))) : W p l e R s m args below meth c H locs cells slots Q (F0 m pc ls st0) := by
  subst hst
  refine va_calli (vx_runSW (As := Value.ref (q 0) :: (As ++ [.ref o])) (rest := rest) S hM (vx_cwSW N S.2.2.2.2 hg rfl hrm.1 hrm.2 hd.2 hR) ⟨preN_blind, fun U hU hW => ⟨rfl, ⟨by rw [hU]; exact hP, w, by rw [hU]; exact hO⟩, KK.moved hW.alike hK⟩⟩ rfl hN hsz rfl (lv_room hw) hdg hcs) hS (fun a _ h => hA a h) (fun a h => hA a h) (fun r u t H1 locs1 ht _ hw hB hz hk hS1 => ?_)
  rw [hw.1]
  rw [ht] at hB
  exact kk H1 locs1 hB.1 hB.2 hS1 hz hk hw.2
theorem ch_T (hM : HT l E q σ o y bytes maxL hh rm As r) (hg : GoodIn lw_all (va_wsS own idx y (wsH y bytes maxL hh))) (hd : hdT y C N) (hN : (Value.ref (q 0) :: (As ++ [.ref o])).length = N) (hrm : rm.cells = 1 ∧ rm.slots = 6) (S : Fx p m c cc nL s args own) (hK : KK E s) (hP : PP 0 E q σ H) (hX : XF q s) (hNC : NC s) (hS : va_S (An s) s.heap H locs) (hst : st0 = (Value.ref (q 0) :: (As ++ [.ref o])).reverse ++ rest) (hsz : ls.size = nL) (hw : (rest.map fun v => v.category).sum ≤ 8) (hR : rm.frames + 1 ≤ R.frames ∧ 8 + (maxL + 11) + rm.locals ≤ R.locals) (hcs : cells + 1 ≤ R.cells ∧ slots + 6 ≤ R.slots) (hdg : decode cc pc = .ok (.invokestatic idx, 3))
    (kk : ∀ (H1 : Heap) (locs1 : List Loc), va_S (An s) s.heap H1 locs1 → H.size ≤ H1.size → (∀ a : Nat, a < H.size → H1[a]? = H[a]?) → W p l e R s m args below meth c H1 locs1 (cells + 1) (slots + 6) Q (F0 m (pc + 3) ls (.int r :: rest))) : W p l e R s m args below meth c H locs cells slots Q (F0 m pc ls st0) := by
  subst hst
  refine va_calli (vx_runSW (As := Value.ref (q 0) :: (As ++ [.ref o])) (rest := rest) S hM (vx_cwSW N S.2.2.2.2 hg rfl hrm.1 hrm.2 hd.2 hR) ⟨preT_blind, fun U hU hW => ⟨rfl, by rw [hU]; exact hP, KK.moved hW.alike hK, hX.warm hW (fun a ha _ => by rw [hU]; exact hS.2.1 a ha (Nat.not_le.mpr ha)), hNC.moved hW.alike⟩⟩ rfl hN hsz rfl (lv_room hw) hdg hcs) hS (fun a _ h => h.elim) (fun a h => h.elim) (fun r9 u t H1 locs1 ht _ hw hB hz hk hS1 => ?_)
  rw [hw]
  exact kk H1 locs1 hS1 hz (fun a ha => hk a ha id)
end LC
set_option maxHeartbeats 1000000 in
theorem c_stateOf {p : Program} {l : Launch} {e : Env} {s : State} {m : MethodId} {args : Array Value} {below : List Frame} {meth : Method} {c : Code} {H : Heap} {locs : List Loc} {cells slots : Nat} {Q : State → Prop} {ls : Array Slot} {E : Ev} {dD : ClassId} {q0 q1 : Nat → Nat} {o od b L T C n : Nat} {xs : Nat → Int32} {i : Int32} {σ : St} (hst : l.stackTraces = false) (S0 : Fx p m c cL_law 9 s args RL) (K : LK E dD q0 q1 o od b L xs s) (hp : LP T C n σ) (hh : LH E dD q0 q1 o od s n σ H locs cells slots) (hn : n < 512) (hl : lv_has ls 9 [(0, .ref b), (1, .ref (q0 0)), (2, .ref (q1 0)), (3, .ref o), (4, .ref od), (5, .int i)]) (hi1 : vp_in (i + 1) L) (hi2 : vp_in (i + 2) L) (hi3 : vp_in (i + 3) L)
    (hpl : (e_X0_stateOf T C σ (xs (i + 1).toNatClampNeg)) = 0 → ∃ T1 C1 : Nat, LP T1 C1 (n + 1) (sS σ 17 0))
    (kk : ∀ (T1 C1 : Nat) (σ1 : St) (H1 : Heap) (locs1 : List Loc) (c1 s1 : Nat) (ls : Array Slot), LP T1 C1 (n + 1) σ1 → LH E dD q0 q1 o od s (n + 1) σ1 H1 locs1 c1 s1 → lv_has ls 9 [(0, .ref b), (1, .ref (q0 0)), (2, .ref (q1 0)), (3, .ref o), (4, .ref od), (5, .int i)] → W p l e room_1 s m args below meth c H1 locs1 c1 s1 Q (F0 m 1609 ls [])) : W p l e room_1 s m args below meth c H locs cells slots Q (F0 m 781 ls []) := by
  obtain ⟨⟨hq0, hq1, hn0, hn1, hno, hnd⟩, ⟨h01, h0o, h1o, h0d, h1d, hod⟩, ⟨hX, hbl, hL⟩, hK, hKD, hXF, hNC⟩ := K
  obtain ⟨hP0, hP1, ⟨w0, hO⟩, hOD, hS, hcl, hsl⟩ := hh
  have hT := hp.1
  have hC := hp.2.1
  have hI := hp.2.2.1
  have hx := S0.1
  have hb := S0.2.1
  have hbA : ¬ An s b := Nat.not_le.mpr hbl
  refine lv_aload_n hx hb dL_law_781 rfl (lv_at hl 1 rfl) ?_
  refine lv_aload_n hx hb dL_law_782 rfl (lv_at hl 0 rfl) ?_
  refine lv_iload hx hb dL_law_783 (lv_at hl 5 rfl) ?_
  refine lv_iconst (v := 1) hx hb dL_law_785 (by decide) ?_
  refine lv_iadd hx hb dL_law_786 ?_
  refine va_sld hx hb hX hbl hbA hS hi1 dL_law_787 ?_
  refine lv_aload_n hx hb dL_law_788 rfl (lv_at hl 3 rfl) ?_
  by_cases he : (e_X0_stateOf T C σ (xs (i + 1).toNatClampNeg)) = 0
  · have he0 : e_X0_stateOf T C (sS σ 17 0) (xs (i + 1).toNatClampNeg) = 0 := he
    have hP00 : PP 0 E q0 (sS σ 17 0) H := hP0
    refine ch_N (h_stateOf l E q0 hq0 hT hC (sS σ 17 0) (inv_sS ⟨by decide, by decide⟩ hI) o h0o (xs (i + 1).toNatClampNeg) he0) (gw_H ml_L_138 st_L_stateOf ini_L cd_L_stateOf) hd_L_stateOf rfl ⟨rfl, rfl⟩ S0 hK hP00 hO hS (fun a h => h.elim (hn0 a) (fun e9 => by rw [e9]; exact hno)) (rest := []) rfl hl.1 (Nat.le_of_ble_eq_true rfl) ⟨(Nat.le_of_ble_eq_true rfl), (Nat.le_of_ble_eq_true rfl)⟩ ⟨by show _ ≤ 1067; omega, by show _ ≤ 8619; omega⟩ dL_law_789 (fun H1 locs1 hP0 hO hS hz hk hex => ?_)
    have hP1 := hP1.kept (H1 := H1) (fun a ha h => hk a ha (fun h9 => h9.elim (fun h8 => h01 a h8 h) (fun e9 => h1o (by rw [← e9]; exact h))))
    have hOD := hOD.kept (H1 := H1) (hk od hOD.lt (fun h9 => h9.elim h0d (fun e9 => hod e9.symm)))
    refine lv_istore hx hb dL_law_792 hl (by decide) rfl (fun ls hl => ?_)
    have hl : lv_has ls 9 [(6, .int 0), (0, .ref b), (1, .ref (q0 0)), (2, .ref (q1 0)), (3, .ref o), (4, .ref od), (5, .int i)] := hl
    refine lv_aload_n hx hb dL_law_794 rfl (lv_at hl 3 rfl) ?_
    refine lv_aload_n hx hb dL_law_795 rfl (lv_at hl 1 rfl) ?_
    refine lv_iload hx hb dL_law_796 (lv_at hl 6 rfl) ?_
    refine lv_iconst (v := 1) hx hb dL_law_798 (by decide) ?_
    refine lv_iadd hx hb dL_law_799 ?_
    refine va_sld hx hb hX hbl hbA hS hi1 dL_law_800 ?_
    have hcs : cells ≤ room_1.cells ∧ slots ≤ room_1.slots := ⟨by show _ ≤ 1067; omega, by show _ ≤ 8619; omega⟩
    refine gl_WI (A := An s) (k_X1_stateOf l E q1 hq1 hT hC σ hI (xs (i + 1).toNatClampNeg)) gw_L_140 hd_X1_stateOf ⟨rfl, rfl⟩ S0 hK hP1 hS (fun a h => hn1 a h) (rest := []) rfl hl.1 (Nat.le_of_ble_eq_true rfl) ⟨(Nat.le_of_ble_eq_true rfl), (Nat.le_of_ble_eq_true rfl)⟩ hcs dL_law_801 (fun H2 locs2 hP1 hS hz2 hk2 hex2 => ?_)
    obtain ⟨hg, hf, h17⟩ := (q_stateOf hT hC hI (xs (i + 1).toNatClampNeg)).1 he
    rw [hg] at hP1
    rw [hf]
    have hP0 := hP0.kept (H1 := H2) (fun a ha h => hk2 a ha (h01 a h))
    have hO := hO.kept (H1 := H2) (hk2 o hO.lt h1o)
    have hOD := hOD.kept (H1 := H2) (hk2 od hOD.lt h1d)
    refine lv_istore hx hb dL_law_804 hl (by decide) rfl (fun ls hl => ?_)
    have hl : lv_has ls 9 [(7, .int (f_X0_stateOf T C (sS σ 17 0) (xs (i + 1).toNatClampNeg))), (6, .int 0), (0, .ref b), (1, .ref (q0 0)), (2, .ref (q1 0)), (3, .ref o), (4, .ref od), (5, .int i)] := hl
    refine lv_aload_n hx hb dL_law_806 rfl (lv_at hl 4 rfl) ?_
    obtain ⟨T1, C1, hp1⟩ := hpl he
    refine cl_RI (k_X1_thrown l E q1 hq1 hp1.1 hp1.2.1 (sS σ 17 0) hp1.2.2.1) gw_L_99 hd_X1_thrown ⟨rfl, rfl⟩ S0 hK hP1 (rest := []) rfl hl.1 (Nat.le_of_ble_eq_true rfl) ⟨(Nat.le_of_ble_eq_true rfl), (Nat.le_of_ble_eq_true rfl)⟩ hcs dL_law_807 (fun _ => ?_)
    rw [show f_X1_thrown T1 C1 (sS σ 17 0) = 0 from h17]
    refine lv_iload hx hb dL_law_810 (lv_at hl 1 rfl) ?_
    refine lv_icmp_eq (tgt := 817) hx hb dL_law_812 (by decide) (fun _ => ?_) (fun h => absurd rfl h)
    refine lv_iload hx hb dL_law_817 (lv_at hl 1 rfl) ?_
    refine lv_if_ne (tgt := 834) hx hb dL_law_819 (by decide) (fun h => absurd rfl h) (fun _ => ?_)
    obtain ⟨fo, hfo, hPO⟩ := hO
    refine lv_aload_n hx hb dL_law_822 rfl (lv_at hl 5 rfl) ?_
    refine lv_iconst (v := 0) hx hb dL_law_823 (by decide) ?_
    refine va_lald hx hb hK hPO 0 1 rfl rfl (by unfold vp_in; decide) dL_law_824 ?_
    rw [show fo (0 : Int32).toNatClampNeg = (Int32.toInt64 (f_X0_stateOf T C (sS σ 17 0) (xs (i + 1).toNatClampNeg))) from hfo]
    refine lv_iload hx hb dL_law_825 (lv_at hl 0 rfl) ?_
    refine lv_i2l (v := (Int32.toInt64 (f_X0_stateOf T C (sS σ 17 0) (xs (i + 1).toNatClampNeg)))) hx hb dL_law_827 rfl ?_
    refine W.lcmp hx hb dL_law_828 ?_
    rw [lgc]
    refine lv_if_eq (tgt := 834) hx hb dL_law_829 (by decide) (fun _ => ?_) (fun h => absurd rfl h)
    refine lv_goto (tgt := 1609) hx hb dL_law_834 rfl ?_
    exact kk T1 C1 (sS σ 17 0) H2 locs2 cells slots ls hp1 ⟨hP0, hP1, ⟨_, fo, hfo, hPO⟩, hOD, hS, by omega, by omega⟩ (lv_sub hl [2, 3, 4, 5, 6, 7] rfl)
  · refine ch_T (x_stateOf l hst E q0 hq0 hT hC σ hI o (xs (i + 1).toNatClampNeg) he) (gw_H ml_L_138 st_L_stateOf ini_L cd_L_stateOf) hd_L_stateOf rfl ⟨rfl, rfl⟩ S0 hK hP0 hXF hNC hS (rest := []) rfl hl.1 (Nat.le_of_ble_eq_true rfl) ⟨(Nat.le_of_ble_eq_true rfl), (Nat.le_of_ble_eq_true rfl)⟩ ⟨by show _ ≤ 1067; omega, by show _ ≤ 8619; omega⟩ dL_law_789 (fun H1 locs1 hS hz hk => ?_)
    have hP0 : PP 0 E q0 (sS σ 17 (e_X0_stateOf T C σ (xs (i + 1).toNatClampNeg))) H1 := hP0.kept (H1 := H1) (fun a ha _ => hk a ha)
    have hP1 := hP1.kept (H1 := H1) (fun a ha _ => hk a ha)
    have hO := hO.kept (H1 := H1) (hk o hO.lt)
    have hOD := hOD.kept (H1 := H1) (hk od hOD.lt)
    refine lv_istore hx hb dL_law_792 hl (by decide) rfl (fun ls hl => ?_)
    have hl : lv_has ls 9 [(6, .int (e_X0_stateOf T C σ (xs (i + 1).toNatClampNeg))), (0, .ref b), (1, .ref (q0 0)), (2, .ref (q1 0)), (3, .ref o), (4, .ref od), (5, .int i)] := hl
    refine lv_aload_n hx hb dL_law_794 rfl (lv_at hl 3 rfl) ?_
    refine lv_aload_n hx hb dL_law_795 rfl (lv_at hl 1 rfl) ?_
    refine lv_iload hx hb dL_law_796 (lv_at hl 6 rfl) ?_
    refine lv_iconst (v := 1) hx hb dL_law_798 (by decide) ?_
    refine lv_iadd hx hb dL_law_799 ?_
    refine va_sld hx hb hX hbl hbA hS hi1 dL_law_800 ?_
    have hcs : cells + 1 ≤ room_1.cells ∧ slots + 6 ≤ room_1.slots := ⟨by show _ ≤ 1067; omega, by show _ ≤ 8619; omega⟩
    refine gl_WI (A := An s) (k_X1_stateOf l E q1 hq1 hT hC σ hI (xs (i + 1).toNatClampNeg)) gw_L_140 hd_X1_stateOf ⟨rfl, rfl⟩ S0 hK hP1 hS (fun a h => hn1 a h) (rest := []) rfl hl.1 (Nat.le_of_ble_eq_true rfl) ⟨(Nat.le_of_ble_eq_true rfl), (Nat.le_of_ble_eq_true rfl)⟩ hcs dL_law_801 (fun H2 locs2 hP1 hS hz2 hk2 hex2 => ?_)
    have hg := (q_stateOf hT hC hI (xs (i + 1).toNatClampNeg)).2 he
    rw [hg] at hP1
    have hP0 := hP0.kept (H1 := H2) (fun a ha h => hk2 a ha (h01 a h))
    have hO := hO.kept (H1 := H2) (hk2 o hO.lt h1o)
    have hOD := hOD.kept (H1 := H2) (hk2 od hOD.lt h1d)
    refine lv_istore hx hb dL_law_804 hl (by decide) rfl (fun ls hl => ?_)
    have hl : lv_has ls 9 [(7, .int (f_X1_stateOf T C σ (xs (i + 1).toNatClampNeg))), (6, .int (e_X0_stateOf T C σ (xs (i + 1).toNatClampNeg))), (0, .ref b), (1, .ref (q0 0)), (2, .ref (q1 0)), (3, .ref o), (4, .ref od), (5, .int i)] := hl
    refine lv_aload_n hx hb dL_law_806 rfl (lv_at hl 4 rfl) ?_
    refine cl_RI (k_X1_thrown l E q1 hq1 (hp.s17 (e_X0_stateOf T C σ (xs (i + 1).toNatClampNeg))).1 (hp.s17 (e_X0_stateOf T C σ (xs (i + 1).toNatClampNeg))).2.1 (sS σ 17 (e_X0_stateOf T C σ (xs (i + 1).toNatClampNeg))) (hp.s17 (e_X0_stateOf T C σ (xs (i + 1).toNatClampNeg))).2.2.1) gw_L_99 hd_X1_thrown ⟨rfl, rfl⟩ S0 hK hP1 (rest := []) rfl hl.1 (Nat.le_of_ble_eq_true rfl) ⟨(Nat.le_of_ble_eq_true rfl), (Nat.le_of_ble_eq_true rfl)⟩ hcs dL_law_807 (fun _ => ?_)
    rw [show f_X1_thrown T C (sS σ 17 (e_X0_stateOf T C σ (xs (i + 1).toNatClampNeg))) = (e_X0_stateOf T C σ (xs (i + 1).toNatClampNeg)) from rfl]
    refine lv_iload hx hb dL_law_810 (lv_at hl 1 rfl) ?_
    refine lv_icmp_eq (tgt := 817) hx hb dL_law_812 (by decide) (fun _ => ?_) (fun h => absurd rfl h)
    refine lv_iload hx hb dL_law_817 (lv_at hl 1 rfl) ?_
    refine lv_if_ne (tgt := 834) hx hb dL_law_819 (by decide) (fun _ => ?_) (fun h => absurd h he)
    refine lv_goto (tgt := 1609) hx hb dL_law_834 rfl ?_
    exact kk T C (sS σ 17 (e_X0_stateOf T C σ (xs (i + 1).toNatClampNeg))) H2 locs2 (cells + 1) (slots + 6) ls (hp.s17 _) ⟨hP0, hP1, ⟨_, hO⟩, hOD, hS, by omega, by omega⟩ (lv_sub hl [2, 3, 4, 5, 6, 7] rfl)
