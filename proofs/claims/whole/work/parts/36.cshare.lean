/-! share's case of the law -/
theorem preD_blind {E : Ev} {dD : ClassId} {q : Nat → Nat} {σ : St} {o : Nat} {As : List Value} : FrameBlind (preD E dD q σ o As) := fun _ _ _ _ h => ⟨h.1, h.2.1, KK.moved (Vm.Alike.refl _) h.2.2.1, va_K.moved (Vm.Alike.refl _) h.2.2.2⟩
set_option maxHeartbeats 2000000 in
theorem c_share (fl : FLs) {p : Program} {l : Launch} {e : Env} {s : State} {m : MethodId} {args : Array Value} {below : List Frame} {meth : Method} {c : Code} {Q : State → Prop} {E : Ev} {dD : ClassId} {q0 q1 : Nat → Nat} {o od b L : Nat} {xs : Nat → Int32} (hst : l.stackTraces = false) (S0 : Fx p m c cL_law 9 s args RL) (K : LK E dD q0 q1 o od b L xs s) : CaseAt p l e s m args below meth c Q E dD q0 q1 o od b L 1060 := by
  intro T C n σ H locs cells slots ls i hp hh hn hl hi1 hi2 hi3 kk
  obtain ⟨⟨hq0, hq1, hn0, hn1, hno, hnd⟩, ⟨h01, h0o, h1o, h0d, h1d, hod⟩, ⟨hX, hbl, hL⟩, hK, hKD, hXF, hNC⟩ := K
  obtain ⟨hP0, hP1, ⟨w0, hO⟩, hOD, hS, hcl, hsl⟩ := hh
  have hT := hp.1
  have hC := hp.2.1
  have hI := hp.2.2.1
  have hR : Rw 51200 σ := hp.2.2.2.2.mono (by omega)
  have hx := S0.1
  have hb := S0.2.1
  have hbA : ¬ An s b := Nat.not_le.mpr hbl
  have hr : rc (f_X1_noTask T C σ (xs (i + 1).toNatClampNeg)) 0 = (e_X0_share T C σ (xs (i + 1).toNatClampNeg)) := by
    rw [rc_0]
    unfold e_X0_share
    rw [noTask_eq hI hT, eTask_eq hI]
  obtain ⟨hm1, hm2⟩ := sm (T := T) (C := C) (σ := σ) hr
  have hg2 : g_X1_share T C σ (xs (i + 1).toNatClampNeg) = sS σ 17 (e_X0_share T C σ (xs (i + 1).toNatClampNeg)) := hm2
  refine lv_aload_n hx hb dL_law_1060 rfl (lv_at hl 1 rfl) ?_
  refine lv_aload_n hx hb dL_law_1061 rfl (lv_at hl 0 rfl) ?_
  refine lv_iload hx hb dL_law_1062 (lv_at hl 5 rfl) ?_
  refine lv_iconst (v := 1) hx hb dL_law_1064 (by decide) ?_
  refine lv_iadd hx hb dL_law_1065 ?_
  refine va_sld hx hb hX hbl hbA hS hi1 dL_law_1066 ?_
  refine lv_aload hx hb dL_law_1067 (lv_at hl 4 rfl) ?_
  by_cases he : (e_X0_share T C σ (xs (i + 1).toNatClampNeg)) = 0
  · refine va_calli (vx_runSW (As := Value.ref (q0 0) :: ([.int (xs (i + 1).toNatClampNeg)] ++ [.ref od])) (rest := []) S0 (h_share fl l E dD q0 hq0 hT hC σ hI hR od h0d (xs (i + 1).toNatClampNeg) he) (vx_cwSW 3 S0.2.2.2.2 (gw_H ml_L_153 st_L_share ini_L cd_L_share) rfl rfl rfl hd_L_share.2 ⟨(Nat.le_of_ble_eq_true rfl), (Nat.le_of_ble_eq_true rfl)⟩) ⟨preD_blind, fun U hU hW => ⟨rfl, ⟨by rw [hU]; exact hP0, by rw [hU]; exact hOD⟩, KK.moved hW.alike hK, va_K.moved hW.alike hKD⟩⟩ rfl rfl hl.1 rfl (lv_room (Nat.le_of_ble_eq_true rfl)) dL_law_1069 ⟨by show _ ≤ 1067; omega, by show _ ≤ 8619; omega⟩) hS (fun a _ h => h.elim (hn0 a) (fun e9 => by rw [e9]; exact hnd)) (fun a h => h.elim (hn0 a) (fun e9 => by rw [e9]; exact hnd)) (fun r u t H1 locs1 ht _ hw hB hz hk hS => ?_)
    rw [hw]
    rw [ht] at hB
    obtain ⟨hP0, hOD⟩ := hB
    have hcs : cells ≤ room_1.cells ∧ slots ≤ room_1.slots := ⟨by show _ ≤ 1067; omega, by show _ ≤ 8619; omega⟩
    have hP1 := hP1.kept (H1 := H1) (fun a ha h => hk a ha (fun h9 => h9.elim (fun h8 => h01 a h8 h) (fun e9 => h1d (by rw [← e9]; exact h))))
    have hO := hO.kept (H1 := H1) (hk o hO.lt (fun h9 => h9.elim h0o hod))
    have hdl := hOD.od.lt
    refine lv_istore hx hb dL_law_1072 hl (by decide) rfl (fun ls hl => ?_)
    have hl : lv_has ls 9 [(6, .int 0), (0, .ref b), (1, .ref (q0 0)), (2, .ref (q1 0)), (3, .ref o), (4, .ref od), (5, .int i)] := hl
    refine lv_aload_n hx hb dL_law_1074 rfl (lv_at hl 3 rfl) ?_
    refine lv_aload_n hx hb dL_law_1075 rfl (lv_at hl 1 rfl) ?_
    refine lv_iload hx hb dL_law_1076 (lv_at hl 6 rfl) ?_
    refine lv_iconst (v := 1) hx hb dL_law_1078 (by decide) ?_
    refine lv_iadd hx hb dL_law_1079 ?_
    refine va_sld hx hb hX hbl hbA hS hi1 dL_law_1080 ?_
    refine gl_WD (A := An s) (k_X1_share fl l E q1 hq1 hT hC σ hI hR (xs (i + 1).toNatClampNeg)) gw_L_156 hd_X1_share ⟨rfl, rfl⟩ S0 hK hP1 hS (fun a h => hn1 a h) (rest := []) rfl hl.1 (Nat.le_of_ble_eq_true rfl) ⟨(Nat.le_of_ble_eq_true rfl), (Nat.le_of_ble_eq_true rfl)⟩ hcs dL_law_1081 (fun H2 locs2 hP1 hS hz2 hk2 => ?_)
    rw [hg2, he] at hP1
    have hf : f_X1_share T C σ (xs (i + 1).toNatClampNeg) = (sv (σ.1 5 (ix (xs (i + 1).toNatClampNeg))) (σ.1 6 (ix (xs (i + 1).toNatClampNeg)))) := by unfold f_X1_share; rw [if_pos (hm1.mpr he)]
    rw [hf]
    have hP0 : PP 0 E q0 (sS σ 17 0) H2 := hP0.kept (H1 := H2) (fun a ha h => hk2 a ha (h01 a h))
    have hO := hO.kept (H1 := H2) (hk2 o hO.lt h1o)
    have hOD := hOD.kept (H1 := H2) (hk2 od hdl h1d)
    refine lv_dstore hx hb dL_law_1084 hl (by decide) rfl (fun ls hl => ?_)
    have hl : lv_has ls 9 [(7, .double (sv (σ.1 5 (ix (xs (i + 1).toNatClampNeg))) (σ.1 6 (ix (xs (i + 1).toNatClampNeg))))), (6, .int 0), (0, .ref b), (1, .ref (q0 0)), (2, .ref (q1 0)), (3, .ref o), (4, .ref od), (5, .int i)] := hl
    refine lv_aload_n hx hb dL_law_1086 rfl (lv_at hl 4 rfl) ?_
    refine cl_RI (k_X1_thrown l E q1 hq1 (hp.s17 0).1 (hp.s17 0).2.1 (sS σ 17 0) (hp.s17 0).2.2.1) gw_L_99 hd_X1_thrown ⟨rfl, rfl⟩ S0 hK hP1 (rest := []) rfl hl.1 (Nat.le_of_ble_eq_true rfl) ⟨(Nat.le_of_ble_eq_true rfl), (Nat.le_of_ble_eq_true rfl)⟩ hcs dL_law_1087 (fun _ => ?_)
    rw [show f_X1_thrown T C (sS σ 17 0) = 0 from rfl]
    refine lv_iload hx hb dL_law_1090 (lv_at hl 1 rfl) ?_
    refine lv_icmp_eq (tgt := 1097) hx hb dL_law_1092 (by decide) (fun _ => ?_) (fun h => absurd rfl h)
    refine lv_iload hx hb dL_law_1097 (lv_at hl 1 rfl) ?_
    refine lv_if_ne (tgt := 1134) hx hb dL_law_1099 (by decide) (fun h => absurd rfl h) (fun _ => ?_)
    have fin : W p l e room_1 s m args below meth c H2 locs2 cells slots Q (F0 m 1134 ls []) := by
      refine lv_goto (tgt := 1609) hx hb dL_law_1134 rfl ?_
      exact kk T C (sS σ 17 0) H2 locs2 cells slots ls (hp.s17 0) ⟨hP0, hP1, ⟨_, hO⟩, hOD.od, hS, by omega, by omega⟩ (lv_sub hl [2, 3, 4, 5, 6, 7] rfl)
    obtain ⟨fo, hfo, hPO⟩ := hOD
    refine lv_aload hx hb dL_law_1102 (lv_at hl 6 rfl) ?_
    refine lv_iconst (v := 0) hx hb dL_law_1104 (by decide) ?_
    refine va_dald hx hb hKD hPO 0 0 rfl rfl (by unfold vp_in; decide) dL_law_1105 ?_
    rw [show fo (0 : Int32).toNatClampNeg = (sv (σ.1 5 (ix (xs (i + 1).toNatClampNeg))) (σ.1 6 (ix (xs (i + 1).toNatClampNeg)))) from hfo]
    refine lv_dload hx hb dL_law_1106 (lv_at hl 0 rfl) ?_
    refine lv_dcmp hx hb dL_law_1108 ?_
    refine lv_if_eq (tgt := 1134) hx hb dL_law_1109 (by decide) (fun _ => fin) (fun hne => ?_)
    refine lv_aload hx hb dL_law_1112 (lv_at hl 6 rfl) ?_
    refine lv_iconst (v := 0) hx hb dL_law_1114 (by decide) ?_
    refine va_dald hx hb hKD hPO 0 0 rfl rfl (by unfold vp_in; decide) dL_law_1115 ?_
    refine lv_aload hx hb dL_law_1116 (lv_at hl 6 rfl) ?_
    refine lv_iconst (v := 0) hx hb dL_law_1118 (by decide) ?_
    refine va_dald hx hb hKD hPO 0 0 rfl rfl (by unfold vp_in; decide) dL_law_1119 ?_
    rw [show fo (0 : Int32).toNatClampNeg = (sv (σ.1 5 (ix (xs (i + 1).toNatClampNeg))) (σ.1 6 (ix (xs (i + 1).toNatClampNeg)))) from hfo]
    refine lv_dcmp hx hb dL_law_1120 ?_
    refine lv_if_eq (tgt := 1132) hx hb dL_law_1121 (by decide) (fun h => absurd h hne) (fun _ => ?_)
    refine lv_dload hx hb dL_law_1124 (lv_at hl 0 rfl) ?_
    refine lv_dload hx hb dL_law_1126 (lv_at hl 0 rfl) ?_
    refine lv_dcmp hx hb dL_law_1128 ?_
    exact lv_if_ne (tgt := 1134) hx hb dL_law_1129 (by decide) (fun _ => fin) (fun h => absurd h hne)
  · refine ch_T (x_share l hst E q0 hq0 hT hC σ hI od (xs (i + 1).toNatClampNeg) he) (gw_H ml_L_153 st_L_share ini_L cd_L_share) hd_L_share rfl ⟨rfl, rfl⟩ S0 hK hP0 hXF hNC hS (rest := []) rfl hl.1 (Nat.le_of_ble_eq_true rfl) ⟨(Nat.le_of_ble_eq_true rfl), (Nat.le_of_ble_eq_true rfl)⟩ ⟨by show _ ≤ 1067; omega, by show _ ≤ 8619; omega⟩ dL_law_1069 (fun H1 locs1 hS hz hk => ?_)
    have hcs : cells + 1 ≤ room_1.cells ∧ slots + 6 ≤ room_1.slots := ⟨by show _ ≤ 1067; omega, by show _ ≤ 8619; omega⟩
    have hP0 : PP 0 E q0 (sS σ 17 (e_X0_share T C σ (xs (i + 1).toNatClampNeg))) H1 := hP0.kept (H1 := H1) (fun a ha _ => hk a ha)
    have hP1 := hP1.kept (H1 := H1) (fun a ha _ => hk a ha)
    have hO := hO.kept (H1 := H1) (hk o hO.lt)
    have hOD := hOD.kept (H1 := H1) (hk od hOD.lt)
    have hdl := hOD.lt
    refine lv_istore hx hb dL_law_1072 hl (by decide) rfl (fun ls hl => ?_)
    have hl : lv_has ls 9 [(6, .int (e_X0_share T C σ (xs (i + 1).toNatClampNeg))), (0, .ref b), (1, .ref (q0 0)), (2, .ref (q1 0)), (3, .ref o), (4, .ref od), (5, .int i)] := hl
    refine lv_aload_n hx hb dL_law_1074 rfl (lv_at hl 3 rfl) ?_
    refine lv_aload_n hx hb dL_law_1075 rfl (lv_at hl 1 rfl) ?_
    refine lv_iload hx hb dL_law_1076 (lv_at hl 6 rfl) ?_
    refine lv_iconst (v := 1) hx hb dL_law_1078 (by decide) ?_
    refine lv_iadd hx hb dL_law_1079 ?_
    refine va_sld hx hb hX hbl hbA hS hi1 dL_law_1080 ?_
    refine gl_WD (A := An s) (k_X1_share fl l E q1 hq1 hT hC σ hI hR (xs (i + 1).toNatClampNeg)) gw_L_156 hd_X1_share ⟨rfl, rfl⟩ S0 hK hP1 hS (fun a h => hn1 a h) (rest := []) rfl hl.1 (Nat.le_of_ble_eq_true rfl) ⟨(Nat.le_of_ble_eq_true rfl), (Nat.le_of_ble_eq_true rfl)⟩ hcs dL_law_1081 (fun H2 locs2 hP1 hS hz2 hk2 => ?_)
    rw [hg2] at hP1
    have hP0 : PP 0 E q0 (sS σ 17 (e_X0_share T C σ (xs (i + 1).toNatClampNeg))) H2 := hP0.kept (H1 := H2) (fun a ha h => hk2 a ha (h01 a h))
    have hO := hO.kept (H1 := H2) (hk2 o hO.lt h1o)
    have hOD := hOD.kept (H1 := H2) (hk2 od hdl h1d)
    refine lv_dstore hx hb dL_law_1084 hl (by decide) rfl (fun ls hl => ?_)
    have hl : lv_has ls 9 [(7, .double (f_X1_share T C σ (xs (i + 1).toNatClampNeg))), (6, .int (e_X0_share T C σ (xs (i + 1).toNatClampNeg))), (0, .ref b), (1, .ref (q0 0)), (2, .ref (q1 0)), (3, .ref o), (4, .ref od), (5, .int i)] := hl
    refine lv_aload_n hx hb dL_law_1086 rfl (lv_at hl 4 rfl) ?_
    refine cl_RI (k_X1_thrown l E q1 hq1 (hp.s17 (e_X0_share T C σ (xs (i + 1).toNatClampNeg))).1 (hp.s17 (e_X0_share T C σ (xs (i + 1).toNatClampNeg))).2.1 (sS σ 17 (e_X0_share T C σ (xs (i + 1).toNatClampNeg))) (hp.s17 (e_X0_share T C σ (xs (i + 1).toNatClampNeg))).2.2.1) gw_L_99 hd_X1_thrown ⟨rfl, rfl⟩ S0 hK hP1 (rest := []) rfl hl.1 (Nat.le_of_ble_eq_true rfl) ⟨(Nat.le_of_ble_eq_true rfl), (Nat.le_of_ble_eq_true rfl)⟩ hcs dL_law_1087 (fun _ => ?_)
    rw [show f_X1_thrown T C (sS σ 17 (e_X0_share T C σ (xs (i + 1).toNatClampNeg))) = (e_X0_share T C σ (xs (i + 1).toNatClampNeg)) from rfl]
    refine lv_iload hx hb dL_law_1090 (lv_at hl 1 rfl) ?_
    refine lv_icmp_eq (tgt := 1097) hx hb dL_law_1092 (by decide) (fun _ => ?_) (fun h => absurd rfl h)
    refine lv_iload hx hb dL_law_1097 (lv_at hl 1 rfl) ?_
    refine lv_if_ne (tgt := 1134) hx hb dL_law_1099 (by decide) (fun _ => ?_) (fun h => absurd h he)
    refine lv_goto (tgt := 1609) hx hb dL_law_1134 rfl ?_
    exact kk T C (sS σ 17 (e_X0_share T C σ (xs (i + 1).toNatClampNeg))) H2 locs2 (cells + 1) (slots + 6) ls (hp.s17 _) ⟨hP0, hP1, ⟨_, hO⟩, hOD, hS, by omega, by omega⟩ (lv_sub hl [2, 3, 4, 5, 6, 7] rfl)
