def CaseAt (p : Program) (l : Launch) (e : Env) (s : State) (m : MethodId) (args : Array Value) (below : List Frame) (meth : Method) (c : Code) (Q : State → Prop) (E : Ev) (dD : ClassId) (q0 q1 : Nat → Nat) (o od b L : Nat) (pc : Nat) : Prop := ∀ (T C n : Nat) (σ : St) (H : Heap) (locs : List Loc) (cells slots : Nat) (ls : Array Slot) (i : Int32), LPs T C n σ → LH E dD q0 q1 o od s n σ H locs cells slots → n < 512 → lv_has ls 9 [(0, .ref b), (1, .ref (q0 0)), (2, .ref (q1 0)), (3, .ref o), (4, .ref od), (5, .int i)] → vp_in (i + 1) L → vp_in (i + 2) L → vp_in (i + 3) L → (∀ (T1 C1 : Nat) (σ1 : St) (H1 : Heap) (locs1 : List Loc) (c1 s1 : Nat) (ls : Array Slot), LPs T1 C1 (n + 1) σ1 → LH E dD q0 q1 o od s (n + 1) σ1 H1 locs1 c1 s1 → lv_has ls 9 [(0, .ref b), (1, .ref (q0 0)), (2, .ref (q1 0)), (3, .ref o), (4, .ref od), (5, .int i)] → W p l e room_1 s m args below meth c H1 locs1 c1 s1 Q (F0 m 1609 ls [])) → W p l e room_1 s m args below meth c H locs cells slots Q (F0 m pc ls [])
theorem c_taskCount {p : Program} {l : Launch} {e : Env} {s : State} {m : MethodId} {args : Array Value} {below : List Frame} {meth : Method} {c : Code} {Q : State → Prop} {E : Ev} {dD : ClassId} {q0 q1 : Nat → Nat} {o od b L : Nat} {xs : Nat → Int32} (S0 : Fx p m c cL_law 9 s args RL) (K : LK E dD q0 q1 o od b L xs s) : CaseAt p l e s m args below meth c Q E dD q0 q1 o od b L 768 := by
  intro T C n σ H locs cells slots ls i hp hh hn hl hi1 hi2 hi3 kk
  obtain ⟨⟨hq0, hq1, hn0, hn1, hno, hnd⟩, ⟨h01, h0o, h1o, h0d, h1d, hod⟩, ⟨hX, hbl, hL⟩, hK, hKD, hXF, hNC⟩ := K
  obtain ⟨hP0, hP1, ⟨w0, hO⟩, hOD, hS, hcl, hsl⟩ := hh
  have hT := hp.1
  have hC := hp.2.1
  have hI := hp.2.2.1
  have hx := S0.1
  have hb := S0.2.1
  have hbA : ¬ An s b := Nat.not_le.mpr hbl
  have hcs : cells ≤ room_1.cells ∧ slots ≤ room_1.slots := ⟨by show _ ≤ 1067; omega, by show _ ≤ 8619; omega⟩
  refine lv_aload_n hx hb dL_law_768 rfl (lv_at hl 1 rfl) ?_
  refine cl_RI (k_X0_taskCount l E q0 hq0 hT hC σ hI) gw_L_134 hd_X0_taskCount ⟨rfl, rfl⟩ S0 hK hP0 (rest := []) rfl hl.1 (Nat.le_of_ble_eq_true rfl) ⟨(Nat.le_of_ble_eq_true rfl), (Nat.le_of_ble_eq_true rfl)⟩ hcs dL_law_769 (fun _ => ?_)
  refine lv_aload_n hx hb dL_law_772 rfl (lv_at hl 2 rfl) ?_
  refine gl_WI (A := An s) (k_X1_taskCount l E q1 hq1 hT hC σ hI) gw_L_137 hd_X1_taskCount ⟨rfl, rfl⟩ S0 hK hP1 hS (fun a h => hn1 a h) (rest := [.int (f_X0_taskCount T C σ)]) rfl hl.1 (Nat.le_of_ble_eq_true rfl) ⟨(Nat.le_of_ble_eq_true rfl), (Nat.le_of_ble_eq_true rfl)⟩ hcs dL_law_773 (fun H2 locs2 hP1 hS hz2 hk2 hex2 => ?_)
  have hP0 : PP 0 E q0 (sS σ 17 0) H2 := hP0.kept (H1 := H2) (fun a ha h => hk2 a ha (h01 a h))
  have hO := hO.kept (H1 := H2) (hk2 o hO.lt h1o)
  have hOD := hOD.kept (H1 := H2) (hk2 od hOD.lt h1d)
  refine lv_icmp_eq (tgt := 1609) hx hb dL_law_776 (by decide) (fun _ => ?_) (fun h => absurd rfl h)
  exact kk T C (sS σ 17 0) H2 locs2 cells slots ls (hp.s17 0) ⟨hP0, hP1, ⟨_, hO⟩, hOD, hS, by omega, by omega⟩ hl
theorem c_stolenTasks {p : Program} {l : Launch} {e : Env} {s : State} {m : MethodId} {args : Array Value} {below : List Frame} {meth : Method} {c : Code} {Q : State → Prop} {E : Ev} {dD : ClassId} {q0 q1 : Nat → Nat} {o od b L : Nat} {xs : Nat → Int32} (S0 : Fx p m c cL_law 9 s args RL) (K : LK E dD q0 q1 o od b L xs s) : CaseAt p l e s m args below meth c Q E dD q0 q1 o od b L 1596 := by
  intro T C n σ H locs cells slots ls i hp hh hn hl hi1 hi2 hi3 kk
  obtain ⟨⟨hq0, hq1, hn0, hn1, hno, hnd⟩, ⟨h01, h0o, h1o, h0d, h1d, hod⟩, ⟨hX, hbl, hL⟩, hK, hKD, hXF, hNC⟩ := K
  obtain ⟨hP0, hP1, ⟨w0, hO⟩, hOD, hS, hcl, hsl⟩ := hh
  have hT := hp.1
  have hC := hp.2.1
  have hI := hp.2.2.1
  have hx := S0.1
  have hb := S0.2.1
  have hbA : ¬ An s b := Nat.not_le.mpr hbl
  have hcs : cells ≤ room_1.cells ∧ slots ≤ room_1.slots := ⟨by show _ ≤ 1067; omega, by show _ ≤ 8619; omega⟩
  refine lv_aload_n hx hb dL_law_1596 rfl (lv_at hl 1 rfl) ?_
  refine cl_RI (k_X0_stolenTasks l E q0 hq0 hT hC σ hI) gw_L_181 hd_X0_stolenTasks ⟨rfl, rfl⟩ S0 hK hP0 (rest := []) rfl hl.1 (Nat.le_of_ble_eq_true rfl) ⟨(Nat.le_of_ble_eq_true rfl), (Nat.le_of_ble_eq_true rfl)⟩ hcs dL_law_1597 (fun _ => ?_)
  refine lv_aload_n hx hb dL_law_1600 rfl (lv_at hl 2 rfl) ?_
  refine gl_WI (A := An s) (k_X1_stolenTasks l E q1 hq1 hT hC σ hI) gw_L_184 hd_X1_stolenTasks ⟨rfl, rfl⟩ S0 hK hP1 hS (fun a h => hn1 a h) (rest := [.int (f_X0_stolenTasks T C σ)]) rfl hl.1 (Nat.le_of_ble_eq_true rfl) ⟨(Nat.le_of_ble_eq_true rfl), (Nat.le_of_ble_eq_true rfl)⟩ hcs dL_law_1601 (fun H2 locs2 hP1 hS hz2 hk2 hex2 => ?_)
  have hP0 : PP 0 E q0 (sS σ 17 0) H2 := hP0.kept (H1 := H2) (fun a ha h => hk2 a ha (h01 a h))
  have hO := hO.kept (H1 := H2) (hk2 o hO.lt h1o)
  have hOD := hOD.kept (H1 := H2) (hk2 od hOD.lt h1d)
  refine lv_icmp_eq (tgt := 1609) hx hb dL_law_1604 (by decide) (fun _ => ?_) (fun h => absurd rfl h)
  exact kk T C (sS σ 17 0) H2 locs2 cells slots ls (hp.s17 0) ⟨hP0, hP1, ⟨_, hO⟩, hOD, hS, by omega, by omega⟩ hl
theorem c_setStealing {p : Program} {l : Launch} {e : Env} {s : State} {m : MethodId} {args : Array Value} {below : List Frame} {meth : Method} {c : Code} {Q : State → Prop} {E : Ev} {dD : ClassId} {q0 q1 : Nat → Nat} {o od b L : Nat} {xs : Nat → Int32} (S0 : Fx p m c cL_law 9 s args RL) (K : LK E dD q0 q1 o od b L xs s) : CaseAt p l e s m args below meth c Q E dD q0 q1 o od b L 220 := by
  intro T C n σ H locs cells slots ls i hp hh hn hl hi1 hi2 hi3 kk
  obtain ⟨⟨hq0, hq1, hn0, hn1, hno, hnd⟩, ⟨h01, h0o, h1o, h0d, h1d, hod⟩, ⟨hX, hbl, hL⟩, hK, hKD, hXF, hNC⟩ := K
  obtain ⟨hP0, hP1, ⟨w0, hO⟩, hOD, hS, hcl, hsl⟩ := hh
  have hT := hp.1
  have hC := hp.2.1
  have hI := hp.2.2.1
  have hx := S0.1
  have hb := S0.2.1
  have hbA : ¬ An s b := Nat.not_le.mpr hbl
  have hcs : cells ≤ room_1.cells ∧ slots ≤ room_1.slots := ⟨by show _ ≤ 1067; omega, by show _ ≤ 8619; omega⟩
  by_cases hv : xs (i + 1).toNatClampNeg = 0
  · refine lv_aload_n hx hb dL_law_220 rfl (lv_at hl 1 rfl) ?_
    refine lv_aload_n hx hb dL_law_221 rfl (lv_at hl 0 rfl) ?_
    refine lv_iload hx hb dL_law_222 (lv_at hl 5 rfl) ?_
    refine lv_iconst (v := 1) hx hb dL_law_224 (by decide) ?_
    refine lv_iadd hx hb dL_law_225 ?_
    refine va_sld hx hb hX hbl hbA hS hi1 dL_law_226 ?_
    refine lv_if_eq (tgt := 234) hx hb dL_law_227 (by decide) (fun _ => ?_) (fun h => absurd hv h)
    refine lv_iconst (v := 0) hx hb dL_law_234 (by decide) ?_
    refine gl_WI (A := An s) (k_X0_setStealing l E q0 hq0 hT hC σ hI 0 (Or.inl rfl) hp.2.2.2.1) gw_L_103 hd_X0_setStealing ⟨rfl, rfl⟩ S0 hK hP0 hS (fun a h => hn0 a h) (rest := []) rfl hl.1 (Nat.le_of_ble_eq_true rfl) ⟨(Nat.le_of_ble_eq_true rfl), (Nat.le_of_ble_eq_true rfl)⟩ hcs dL_law_235 (fun H1 locs1 hP0 hS hz1 hk1 hex1 => ?_)
    have hP1 := hP1.kept (H1 := H1) (fun a ha h => hk1 a ha (fun h9 => h01 a h9 h))
    have hO := hO.kept (H1 := H1) (hk1 o hO.lt h0o)
    have hOD := hOD.kept (H1 := H1) (hk1 od hOD.lt h0d)
    refine lv_aload_n hx hb dL_law_238 rfl (lv_at hl 2 rfl) ?_
    refine lv_aload_n hx hb dL_law_239 rfl (lv_at hl 0 rfl) ?_
    refine lv_iload hx hb dL_law_240 (lv_at hl 5 rfl) ?_
    refine lv_iconst (v := 1) hx hb dL_law_242 (by decide) ?_
    refine lv_iadd hx hb dL_law_243 ?_
    refine va_sld hx hb hX hbl hbA hS hi1 dL_law_244 ?_
    refine lv_if_eq (tgt := 252) hx hb dL_law_245 (by decide) (fun _ => ?_) (fun h => absurd hv h)
    refine lv_iconst (v := 0) hx hb dL_law_252 (by decide) ?_
    refine gl_WI (A := An s) (k_X1_setStealing l E q1 hq1 hT hC σ hI 0 (Or.inl rfl) hp.2.2.2.1) gw_L_107 hd_X1_setStealing ⟨rfl, rfl⟩ S0 hK hP1 hS (fun a h => hn1 a h) (rest := [.int (f_X0_setStealing T C σ 0)]) rfl hl.1 (Nat.le_of_ble_eq_true rfl) ⟨(Nat.le_of_ble_eq_true rfl), (Nat.le_of_ble_eq_true rfl)⟩ hcs dL_law_253 (fun H2 locs2 hP1 hS hz2 hk2 hex2 => ?_)
    have hP0 : PP 0 E q0 (sS (sS σ 17 0) 16 0) H2 := hP0.kept (H1 := H2) (fun a ha h => hk2 a ha (h01 a h))
    have hO := hO.kept (H1 := H2) (hk2 o hO.lt h1o)
    have hOD := hOD.kept (H1 := H2) (hk2 od hOD.lt h1d)
    refine lv_icmp_eq (tgt := 1609) hx hb dL_law_256 (by decide) (fun _ => ?_) (fun h => absurd rfl h)
    exact kk T C (sS (sS σ 17 0) 16 0) H2 locs2 cells slots ls ⟨hT, hC, hex2.1, (Or.inl rfl), Rw.mono (σ := sS (sS σ 17 0) 16 0) (fun k => hp.2.2.2.2 k) (by omega)⟩ ⟨hP0, hP1, ⟨_, hO⟩, hOD, hS, by omega, by omega⟩ hl
  · refine lv_aload_n hx hb dL_law_220 rfl (lv_at hl 1 rfl) ?_
    refine lv_aload_n hx hb dL_law_221 rfl (lv_at hl 0 rfl) ?_
    refine lv_iload hx hb dL_law_222 (lv_at hl 5 rfl) ?_
    refine lv_iconst (v := 1) hx hb dL_law_224 (by decide) ?_
    refine lv_iadd hx hb dL_law_225 ?_
    refine va_sld hx hb hX hbl hbA hS hi1 dL_law_226 ?_
    refine lv_if_eq (tgt := 234) hx hb dL_law_227 (by decide) (fun h => absurd h hv) (fun _ => ?_)
    refine lv_iconst (v := 1) hx hb dL_law_230 (by decide) ?_
    refine lv_goto (tgt := 235) hx hb dL_law_231 rfl ?_
    refine gl_WI (A := An s) (k_X0_setStealing l E q0 hq0 hT hC σ hI 1 (Or.inr rfl) hp.2.2.2.1) gw_L_103 hd_X0_setStealing ⟨rfl, rfl⟩ S0 hK hP0 hS (fun a h => hn0 a h) (rest := []) rfl hl.1 (Nat.le_of_ble_eq_true rfl) ⟨(Nat.le_of_ble_eq_true rfl), (Nat.le_of_ble_eq_true rfl)⟩ hcs dL_law_235 (fun H1 locs1 hP0 hS hz1 hk1 hex1 => ?_)
    have hP1 := hP1.kept (H1 := H1) (fun a ha h => hk1 a ha (fun h9 => h01 a h9 h))
    have hO := hO.kept (H1 := H1) (hk1 o hO.lt h0o)
    have hOD := hOD.kept (H1 := H1) (hk1 od hOD.lt h0d)
    refine lv_aload_n hx hb dL_law_238 rfl (lv_at hl 2 rfl) ?_
    refine lv_aload_n hx hb dL_law_239 rfl (lv_at hl 0 rfl) ?_
    refine lv_iload hx hb dL_law_240 (lv_at hl 5 rfl) ?_
    refine lv_iconst (v := 1) hx hb dL_law_242 (by decide) ?_
    refine lv_iadd hx hb dL_law_243 ?_
    refine va_sld hx hb hX hbl hbA hS hi1 dL_law_244 ?_
    refine lv_if_eq (tgt := 252) hx hb dL_law_245 (by decide) (fun h => absurd h hv) (fun _ => ?_)
    refine lv_iconst (v := 1) hx hb dL_law_248 (by decide) ?_
    refine lv_goto (tgt := 253) hx hb dL_law_249 rfl ?_
    refine gl_WI (A := An s) (k_X1_setStealing l E q1 hq1 hT hC σ hI 1 (Or.inr rfl) hp.2.2.2.1) gw_L_107 hd_X1_setStealing ⟨rfl, rfl⟩ S0 hK hP1 hS (fun a h => hn1 a h) (rest := [.int (f_X0_setStealing T C σ 1)]) rfl hl.1 (Nat.le_of_ble_eq_true rfl) ⟨(Nat.le_of_ble_eq_true rfl), (Nat.le_of_ble_eq_true rfl)⟩ hcs dL_law_253 (fun H2 locs2 hP1 hS hz2 hk2 hex2 => ?_)
    have hP0 : PP 0 E q0 (sS (sS σ 17 0) 16 1) H2 := hP0.kept (H1 := H2) (fun a ha h => hk2 a ha (h01 a h))
    have hO := hO.kept (H1 := H2) (hk2 o hO.lt h1o)
    have hOD := hOD.kept (H1 := H2) (hk2 od hOD.lt h1d)
    refine lv_icmp_eq (tgt := 1609) hx hb dL_law_256 (by decide) (fun _ => ?_) (fun h => absurd rfl h)
    exact kk T C (sS (sS σ 17 0) 16 1) H2 locs2 cells slots ls ⟨hT, hC, hex2.1, (Or.inr rfl), Rw.mono (σ := sS (sS σ 17 0) 16 1) (fun k => hp.2.2.2.2 k) (by omega)⟩ ⟨hP0, hP1, ⟨_, hO⟩, hOD, hS, by omega, by omega⟩ hl
theorem sub4 {L : Nat} (hL : L ≤ 2048) : (Int32.ofNat L - 4).toInt = (L : Int) - 4 := by
  have h1 : (Int32.ofNat L).toInt = (L : Int) := nI_toInt (n := L) (by omega)
  rw [Int32.toInt_sub, h1, show (4 : Int32).toInt = 4 from by decide]
  simp only [Int.bmod]
  split <;> omega
set_option maxHeartbeats 4000000 in
theorem law_loop {p : Program} {l : Launch} {e : Env} {s : State} {m : MethodId} {args : Array Value} {below : List Frame} {meth : Method} {c : Code} {Q : State → Prop} {E : Ev} {dD : ClassId} {q0 q1 : Nat → Nat} {o od b L : Nat} {xs : Nat → Int32} (hst : l.stackTraces = false) (S0 : Fx p m c cL_law 9 s args RL) (K : LK E dD q0 q1 o od b L xs s) (hsh : CaseAt p l e s m args below meth c Q E dD q0 q1 o od b L 1060)
    (hend : ∀ (H : Heap) (locs : List Loc) (cells slots : Nat) (ls : Array Slot), va_S (An s) s.heap H locs → cells ≤ 1067 → slots ≤ 8619 → W p l e room_1 s m args below meth c H locs cells slots Q (F0 m 1615 ls [])) :
    ∀ (k n T C : Nat) (σ : St) (H : Heap) (locs : List Loc) (cells slots : Nat) (ls : Array Slot), L ≤ 4 * (n + k) → n ≤ 512 → LPs T C n σ → LH E dD q0 q1 o od s n σ H locs cells slots → lv_has ls 9 [(0, .ref b), (1, .ref (q0 0)), (2, .ref (q1 0)), (3, .ref o), (4, .ref od), (5, .int (nI (4 * n)))] → W p l e room_1 s m args below meth c H locs cells slots Q (F0 m 28 ls []) := by
  have K9 := K
  obtain ⟨-, -, ⟨hX, hbl, hL⟩, -⟩ := K9
  have hx := S0.1
  have hb := S0.2.1
  have hbA : ¬ An s b := Nat.not_le.mpr hbl
  intro k
  induction k with
  | zero =>
    intro n T C σ H locs cells slots ls hk hn hp hh hl
    obtain ⟨hP0, hP1, ⟨w0, hO⟩, hOD, hS, hcl, hsl⟩ := hh
    refine lv_iload hx hb dL_law_28 (lv_at hl 5 rfl) ?_
    refine lv_aload_n hx hb dL_law_30 rfl (lv_at hl 0 rfl) ?_
    refine va_slen hx hb hX hbl hbA hS dL_law_31 ?_
    refine lv_iconst (v := 4) hx hb dL_law_32 (by decide) ?_
    refine lv_isub hx hb dL_law_33 ?_
    refine lv_icmp_gt (tgt := 1615) hx hb dL_law_34 (by decide) (fun _ => ?_) (fun h => ?_)
    · exact hend H locs cells slots ls hS (by omega) (by omega)
    · exfalso
      apply h
      have h2 := nI_toInt (n := 4 * n) (by omega)
      have h3 := sub4 hL
      apply Int32.lt_iff_toInt_lt.mpr
      rw [h2, h3]
      omega
  | succ k IH =>
    intro n T C σ H locs cells slots ls hk hn hp hh hl
    have hh0 := hh
    obtain ⟨hP0, hP1, ⟨w0, hO⟩, hOD, hS, hcl, hsl⟩ := hh
    refine lv_iload hx hb dL_law_28 (lv_at hl 5 rfl) ?_
    refine lv_aload_n hx hb dL_law_30 rfl (lv_at hl 0 rfl) ?_
    refine va_slen hx hb hX hbl hbA hS dL_law_31 ?_
    refine lv_iconst (v := 4) hx hb dL_law_32 (by decide) ?_
    refine lv_isub hx hb dL_law_33 ?_
    refine lv_icmp_gt (tgt := 1615) hx hb dL_law_34 (by decide) (fun _ => ?_) (fun h => ?_)
    · exact hend H locs cells slots ls hS (by omega) (by omega)
    · have h4 : 4 * n + 4 ≤ L := by
        have h2 := nI_toInt (n := 4 * n) (by omega)
        have h3 := sub4 hL
        have h5 : ¬ (Int32.ofNat L - 4).toInt < (nI (4 * n)).toInt := fun q => h (Int32.lt_iff_toInt_lt.mpr q)
        rw [h2, h3] at h5
        omega
      have hn1 : n < 512 := by omega
      have hi0 : vp_in (nI (4 * n)) L := vp_in_nI (by omega) (by omega)
      have hi1 : vp_in (nI (4 * n) + 1) L := by rw [show nI (4 * n) + 1 = nI (4 * n + 1) from nI_add (4 * n) 1]; exact vp_in_nI (by omega) (by omega)
      have hi2 : vp_in (nI (4 * n) + 2) L := by rw [show nI (4 * n) + 2 = nI (4 * n + 2) from nI_add (4 * n) 2]; exact vp_in_nI (by omega) (by omega)
      have hi3 : vp_in (nI (4 * n) + 3) L := by rw [show nI (4 * n) + 3 = nI (4 * n + 3) from nI_add (4 * n) 3]; exact vp_in_nI (by omega) (by omega)
      have kk : ∀ (T1 C1 : Nat) (σ1 : St) (H1 : Heap) (locs1 : List Loc) (c1 s1 : Nat) (ls : Array Slot), LPs T1 C1 (n + 1) σ1 → LH E dD q0 q1 o od s (n + 1) σ1 H1 locs1 c1 s1 → lv_has ls 9 [(0, .ref b), (1, .ref (q0 0)), (2, .ref (q1 0)), (3, .ref o), (4, .ref od), (5, .int (nI (4 * n)))] → W p l e room_1 s m args below meth c H1 locs1 c1 s1 Q (F0 m 1609 ls []) := by
        intro T1 C1 σ1 H1 locs1 c1 s1 ls hp1 hh1 hl
        refine lv_iinc (k := 5) (v := nI (4 * (n + 1))) hx hb dL_law_1609 hl rfl (nI_add (4 * n) 4) (by decide) rfl (fun ls hl => ?_)
        refine lv_goto (tgt := 28) hx hb dL_law_1612 rfl ?_
        exact IH (n + 1) T1 C1 σ1 H1 locs1 c1 s1 ls (by omega) (by omega) hp1 hh1 (lv_sub hl [1, 2, 3, 4, 5, 0] rfl)
      refine lv_aload_n hx hb dL_law_37 rfl (lv_at hl 0 rfl) ?_
      refine lv_iload hx hb dL_law_38 (lv_at hl 5 rfl) ?_
      refine va_sld hx hb hX hbl hbA hS hi0 dL_law_40 ?_
      refine lv_bipush (v := 31) hx hb dL_law_41 (by decide) ?_
      refine lv_iand hx hb dL_law_43 ?_
      by_cases ho : (xs (nI (4 * n)).toNatClampNeg &&& 31).toInt < 0 ∨ 25 < (xs (nI (4 * n)).toNatClampNeg &&& 31).toInt
      · refine lv_tableOut (tgt := 1609) hx hb dL_law_44 ho (by decide) ?_
        exact kk T C σ H locs cells slots ls ⟨hp.1, hp.2.1, hp.2.2.1, hp.2.2.2.1, hp.2.2.2.2.mono (by omega)⟩ ⟨hP0, hP1, ⟨w0, hO⟩, hOD, hS, by omega, by omega⟩ hl
      · have hv : (xs (nI (4 * n)).toNatClampNeg &&& 31).toInt = 0 ∨ (xs (nI (4 * n)).toNatClampNeg &&& 31).toInt = 1 ∨ (xs (nI (4 * n)).toNatClampNeg &&& 31).toInt = 2 ∨ (xs (nI (4 * n)).toNatClampNeg &&& 31).toInt = 3 ∨ (xs (nI (4 * n)).toNatClampNeg &&& 31).toInt = 4 ∨ (xs (nI (4 * n)).toNatClampNeg &&& 31).toInt = 5 ∨ (xs (nI (4 * n)).toNatClampNeg &&& 31).toInt = 6 ∨ (xs (nI (4 * n)).toNatClampNeg &&& 31).toInt = 7 ∨ (xs (nI (4 * n)).toNatClampNeg &&& 31).toInt = 8 ∨ (xs (nI (4 * n)).toNatClampNeg &&& 31).toInt = 9 ∨ (xs (nI (4 * n)).toNatClampNeg &&& 31).toInt = 10 ∨ (xs (nI (4 * n)).toNatClampNeg &&& 31).toInt = 11 ∨ (xs (nI (4 * n)).toNatClampNeg &&& 31).toInt = 12 ∨ (xs (nI (4 * n)).toNatClampNeg &&& 31).toInt = 13 ∨ (xs (nI (4 * n)).toNatClampNeg &&& 31).toInt = 14 ∨ (xs (nI (4 * n)).toNatClampNeg &&& 31).toInt = 15 ∨ (xs (nI (4 * n)).toNatClampNeg &&& 31).toInt = 16 ∨ (xs (nI (4 * n)).toNatClampNeg &&& 31).toInt = 17 ∨ (xs (nI (4 * n)).toNatClampNeg &&& 31).toInt = 18 ∨ (xs (nI (4 * n)).toNatClampNeg &&& 31).toInt = 19 ∨ (xs (nI (4 * n)).toNatClampNeg &&& 31).toInt = 20 ∨ (xs (nI (4 * n)).toNatClampNeg &&& 31).toInt = 21 ∨ (xs (nI (4 * n)).toNatClampNeg &&& 31).toInt = 22 ∨ (xs (nI (4 * n)).toNatClampNeg &&& 31).toInt = 23 ∨ (xs (nI (4 * n)).toNatClampNeg &&& 31).toInt = 24 ∨ (xs (nI (4 * n)).toNatClampNeg &&& 31).toInt = 25 := by omega
        rcases hv with hv | hv | hv | hv | hv | hv | hv | hv | hv | hv | hv | hv | hv | hv | hv | hv | hv | hv | hv | hv | hv | hv | hv | hv | hv | hv
        · refine lv_tableIn (off := 120) (tgt := 164) hx hb dL_law_44 (by omega) (by omega) (by rw [hv]; rfl) (by decide) ?_
          exact c_reset hst S0 K hp hh0 hn1 hl hi1 hi2 hi3 (fun he _ => pl_reset hp _ he) kk
        · refine lv_tableIn (off := 176) (tgt := 220) hx hb dL_law_44 (by omega) (by omega) (by rw [hv]; rfl) (by decide) ?_
          exact c_setStealing S0 K T C n σ H locs cells slots ls _ hp hh0 hn1 hl hi1 hi2 hi3 kk
        · refine lv_tableIn (off := 217) (tgt := 261) hx hb dL_law_44 (by omega) (by omega) (by rw [hv]; rfl) (by decide) ?_
          exact c_tick hst S0 K hp hh0 hn1 hl hi1 hi2 hi3 (fun he hx9 => ⟨T, C, pl_tick hp _ he hx9.1⟩) kk
        · refine lv_tableIn (off := 273) (tgt := 317) hx hb dL_law_44 (by omega) (by omega) (by rw [hv]; rfl) (by decide) ?_
          exact c_createTask hst S0 K hp hh0 hn1 hl hi1 hi2 hi3 (fun he _ => pl_createTask hp _ _ _ he) kk
        · refine lv_tableIn (off := 353) (tgt := 397) hx hb dL_law_44 (by omega) (by omega) (by rw [hv]; rfl) (by decide) ?_
          exact c_sleep hst S0 K hp hh0 hn1 hl hi1 hi2 hi3 (fun _ hx9 => ⟨T, C, pl_sleep hp _ hx9.1⟩) kk
        · refine lv_tableIn (off := 409) (tgt := 453) hx hb dL_law_44 (by omega) (by omega) (by rw [hv]; rfl) (by decide) ?_
          exact c_wake hst S0 K hp hh0 hn1 hl hi1 hi2 hi3 (fun _ hx9 => ⟨T, C, pl_wake hp _ hx9.1⟩) kk
        · refine lv_tableIn (off := 464) (tgt := 508) hx hb dL_law_44 (by omega) (by omega) (by rw [hv]; rfl) (by decide) ?_
          exact c_exit hst S0 K hp hh0 hn1 hl hi1 hi2 hi3 (fun _ hx9 => ⟨T, C, pl_exit hp _ hx9.1⟩) kk
        · refine lv_tableIn (off := 520) (tgt := 564) hx hb dL_law_44 (by omega) (by omega) (by rw [hv]; rfl) (by decide) ?_
          exact c_setWeight hst S0 K hp hh0 hn1 hl hi1 hi2 hi3 (fun _ hx9 => ⟨T, C, pl_setWeight hp _ _ hx9.1⟩) kk
        · refine lv_tableIn (off := 588) (tgt := 632) hx hb dL_law_44 (by omega) (by omega) (by rw [hv]; rfl) (by decide) ?_
          exact c_setCookie hst S0 K hp hh0 hn1 hl hi1 hi2 hi3 (fun _ hx9 => ⟨T, C, pl_setCookie hp _ _ hx9.1⟩) kk
        · refine lv_tableIn (off := 656) (tgt := 700) hx hb dL_law_44 (by omega) (by omega) (by rw [hv]; rfl) (by decide) ?_
          exact c_moveTask hst S0 K hp hh0 hn1 hl hi1 hi2 hi3 (fun _ hx9 => ⟨T, C, pl_moveTask hp _ _ hx9.1⟩) kk
        · refine lv_tableIn (off := 724) (tgt := 768) hx hb dL_law_44 (by omega) (by omega) (by rw [hv]; rfl) (by decide) ?_
          exact c_taskCount S0 K T C n σ H locs cells slots ls _ hp hh0 hn1 hl hi1 hi2 hi3 kk
        · refine lv_tableIn (off := 737) (tgt := 781) hx hb dL_law_44 (by omega) (by omega) (by rw [hv]; rfl) (by decide) ?_
          exact c_stateOf hst S0 K hp hh0 hn1 hl hi1 hi2 hi3 (fun _ _ => ⟨T, C, hp.s17 0⟩) kk
        · refine lv_tableIn (off := 793) (tgt := 837) hx hb dL_law_44 (by omega) (by omega) (by rw [hv]; rfl) (by decide) ?_
          exact c_cpuOf hst S0 K hp hh0 hn1 hl hi1 hi2 hi3 (fun _ _ => ⟨T, C, hp.s17 0⟩) kk
        · refine lv_tableIn (off := 849) (tgt := 893) hx hb dL_law_44 (by omega) (by omega) (by rw [hv]; rfl) (by decide) ?_
          exact c_virtualTime hst S0 K hp hh0 hn1 hl hi1 hi2 hi3 (fun _ _ => ⟨T, C, hp.s17 0⟩) kk
        · refine lv_tableIn (off := 904) (tgt := 948) hx hb dL_law_44 (by omega) (by omega) (by rw [hv]; rfl) (by decide) ?_
          exact c_runTicks hst S0 K hp hh0 hn1 hl hi1 hi2 hi3 (fun _ _ => ⟨T, C, hp.s17 0⟩) kk
        · refine lv_tableIn (off := 960) (tgt := 1004) hx hb dL_law_44 (by omega) (by omega) (by rw [hv]; rfl) (by decide) ?_
          exact c_waitTicks hst S0 K hp hh0 hn1 hl hi1 hi2 hi3 (fun _ _ => ⟨T, C, hp.s17 0⟩) kk
        · refine lv_tableIn (off := 1016) (tgt := 1060) hx hb dL_law_44 (by omega) (by omega) (by rw [hv]; rfl) (by decide) ?_
          exact hsh T C n σ H locs cells slots ls _ hp hh0 hn1 hl hi1 hi2 hi3 kk
        · refine lv_tableIn (off := 1093) (tgt := 1137) hx hb dL_law_44 (by omega) (by omega) (by rw [hv]; rfl) (by decide) ?_
          exact c_runningTask hst S0 K hp hh0 hn1 hl hi1 hi2 hi3 (fun _ _ => ⟨T, C, hp.s17 0⟩) kk
        · refine lv_tableIn (off := 1149) (tgt := 1193) hx hb dL_law_44 (by omega) (by omega) (by rw [hv]; rfl) (by decide) ?_
          exact c_coreCookie hst S0 K hp hh0 hn1 hl hi1 hi2 hi3 (fun _ _ => ⟨T, C, hp.s17 0⟩) kk
        · refine lv_tableIn (off := 1205) (tgt := 1249) hx hb dL_law_44 (by omega) (by omega) (by rw [hv]; rfl) (by decide) ?_
          exact c_leaderOf hst S0 K hp hh0 hn1 hl hi1 hi2 hi3 (fun _ _ => ⟨T, C, hp.s17 0⟩) kk
        · refine lv_tableIn (off := 1261) (tgt := 1305) hx hb dL_law_44 (by omega) (by omega) (by rw [hv]; rfl) (by decide) ?_
          exact c_queueLength hst S0 K hp hh0 hn1 hl hi1 hi2 hi3 (fun _ _ => ⟨T, C, hp.s17 0⟩) kk
        · refine lv_tableIn (off := 1317) (tgt := 1361) hx hb dL_law_44 (by omega) (by omega) (by rw [hv]; rfl) (by decide) ?_
          exact c_queuedTask hst S0 K hp hh0 hn1 hl hi1 hi2 hi3 (fun _ _ => ⟨T, C, hp.s17 0⟩) kk
        · refine lv_tableIn (off := 1385) (tgt := 1429) hx hb dL_law_44 (by omega) (by omega) (by rw [hv]; rfl) (by decide) ?_
          exact c_baseOf hst S0 K hp hh0 hn1 hl hi1 hi2 hi3 (fun _ _ => ⟨T, C, hp.s17 0⟩) kk
        · refine lv_tableIn (off := 1440) (tgt := 1484) hx hb dL_law_44 (by omega) (by omega) (by rw [hv]; rfl) (by decide) ?_
          exact c_idleTicks hst S0 K hp hh0 hn1 hl hi1 hi2 hi3 (fun _ _ => ⟨T, C, hp.s17 0⟩) kk
        · refine lv_tableIn (off := 1496) (tgt := 1540) hx hb dL_law_44 (by omega) (by omega) (by rw [hv]; rfl) (by decide) ?_
          exact c_forcedIdleTicks hst S0 K hp hh0 hn1 hl hi1 hi2 hi3 (fun _ _ => ⟨T, C, hp.s17 0⟩) kk
        · refine lv_tableIn (off := 1552) (tgt := 1596) hx hb dL_law_44 (by omega) (by omega) (by rw [hv]; rfl) (by decide) ?_
          exact c_stolenTasks S0 K T C n σ H locs cells slots ls _ hp hh0 hn1 hl hi1 hi2 hi3 kk
