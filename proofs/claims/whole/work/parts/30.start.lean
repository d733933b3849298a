/-! the law's start: two objects, two arrays -/
theorem arr_of {args : Array Value} {s : State} {ty : FieldType} (h : (Cond.arrayClass ty).before args s = true) : ∃ cA : ClassId, ArrOfT s cA ty ∧ s.vm.findClass ("[" ++ ty.toString) = some cA := by
  obtain ⟨cA, kA, comp, h1, h2, h3⟩ := Cond.arrayClass_spec h
  exact ⟨cA, fun n z => ⟨fun k h => (by cases h), kA, h2, comp, h3⟩, h1⟩
theorem k_of {args : Array Value} {s : State} (hts : ∀ w ∈ lw_all, w.before args s = true) : ∃ (E : Ev) (dD : ClassId), KK E s ∧ va_K E.1 vwCl [(dD, .double)] s := by
  obtain ⟨c0, i0, k0⟩ := u_known (C := RX0) (T := TX0) (N := 17) (n := 17) hts in_X0 (hts _ inst_X0)
  obtain ⟨c1, i1, k1⟩ := u_known (C := RX1) (T := TX1) (N := 18) (n := 18) hts in_X1 (hts _ inst_X1)
  obtain ⟨aI, hI1, hI2⟩ := arr_of (hts _ acl_int)
  obtain ⟨aJ, hJ1, hJ2⟩ := arr_of (hts _ acl_long)
  obtain ⟨aZ, hZ1, hZ2⟩ := arr_of (hts _ acl_boolean)
  obtain ⟨aD, hD1, hD2⟩ := arr_of (hts _ acl_double)
  have hc : ∀ (c : Nat) (q : vw_C), vwCl[c]? = some q → u_Kn s q.1 q.2.1 q.2.2 ((fun c : Nat => if c = 0 then c0 else c1) c) ((fun c : Nat => if c = 0 then i0 else i1) c) := by
    intro c q hq
    match c, hq with
    | 0, hq => cases hq; exact k0
    | 1, hq => cases hq; exact k1
    | c + 2, hq => simp [vwCl] at hq
  refine ⟨((fun c : Nat => if c = 0 then c0 else c1, fun c : Nat => if c = 0 then i0 else i1), aI, aJ, aZ), aD, ⟨hc, fun k q hk => ?_⟩, ⟨hc, fun k q hk => ?_⟩⟩
  · match k, hk with
    | 0, hk => cases hk; exact ⟨hI1, hI2⟩
    | 1, hk => cases hk; exact ⟨hJ1, hJ2⟩
    | 2, hk => cases hk; exact ⟨hZ1, hZ2⟩
    | k + 3, hk => simp at hk
  · match k, hk with
    | 0, hk => cases hk; exact ⟨hD1, hD2⟩
    | k + 1, hk => simp at hk
theorem PP0_eq {E : Ev} {q : Nat → Nat} {H : Heap} {σ τ : St} (h1 : τ.1 = σ.1) (h2 : τ.2.1 = σ.2.1) (h13 : τ.2.2 13 = σ.2.2 13) (h14 : τ.2.2 14 = σ.2.2 14) (h15 : τ.2.2 15 = σ.2.2 15) (h16 : τ.2.2 16 = σ.2.2 16) (h : PP 0 E q σ H) : PP 0 E q τ H := by
  have e : (q 0, ob 0 q τ.2.2) :: wr E q τ = (q 0, ob 0 q σ.2.2) :: wr E q σ := by simp only [ob, wr, h1, h2, h13, h14, h15, h16]
  unfold PP
  rw [e]
  exact h
theorem init_PP {E : Ev} {q : Nat → Nat} {H : Heap} (h : PP 0 E q (g_X0_init 0 2) H) : PP 0 E q (g_X1_init 0 2) H := by
  have e : g_X1_init 0 2 = g_X0_startAnew 0 2 (sS z0 13 2) 2 := anew_eq _ _
  rw [e]
  exact PP0_eq (σ := g_X0_init 0 2) rfl rfl rfl rfl rfl rfl h
theorem init_lp : LPs 0 2 0 (g_X1_init 0 2) := by
  have e : g_X1_init 0 2 = g_X0_startAnew 0 2 (sS z0 13 2) 2 := anew_eq _ _
  rw [e]
  exact ⟨by decide, ⟨by decide, by decide⟩, inv_anew (D := 2) (sS z0 13 2) (fun k => by show vp_in 0 8; unfold vp_in; decide), Or.inl rfl, fun k => ⟨0, 0, rfl, rfl, by decide⟩⟩
theorem A1_of {a sz q : Nat} {e : va_E} (h : va_A [(a, e)] sz q) : q = a ∨ sz ≤ q := by
  rcases h with ⟨k, e1, h⟩ | h
  · match k, h with
    | 0, h => cases h; exact Or.inl rfl
    | k + 1, h => simp at h
  · exact Or.inr h
theorem kI_blind {E : Ev} {h0 sz : Nat} {ws : va_W} : FrameBlind (va_Pc [.ref h0] (fun U => (U.heap.size = sz ∧ va_P E.1 vwCl ws U.heap) ∧ KK E U)) := fun _ _ _ _ h => ⟨h.1, h.2.1, KK.moved (Vm.Alike.refl _) h.2.2⟩
theorem apart {A : Nat → Prop} {E : Ev} {q : Nat → Nat} {σ : St} {k0 a : Nat} {e : va_E} (hD : va_D A (((q 0, ob k0 q σ.2.2) :: wr E q σ) ++ [(a, e)])) : ¬ Aq q a := by
  rintro ⟨k, hk, e9⟩
  match k, hk, e9 with
  | 0, _, e9 => exact absurd (hD.1 0 14 _ _ rfl rfl e9.symm) (by decide)
  | 1, _, e9 => exact absurd (hD.1 1 14 _ _ rfl rfl e9.symm) (by decide)
  | 2, _, e9 => exact absurd (hD.1 2 14 _ _ rfl rfl e9.symm) (by decide)
  | 3, _, e9 => exact absurd (hD.1 3 14 _ _ rfl rfl e9.symm) (by decide)
  | 4, _, e9 => exact absurd (hD.1 4 14 _ _ rfl rfl e9.symm) (by decide)
  | 5, _, e9 => exact absurd (hD.1 5 14 _ _ rfl rfl e9.symm) (by decide)
  | 6, _, e9 => exact absurd (hD.1 6 14 _ _ rfl rfl e9.symm) (by decide)
  | 7, _, e9 => exact absurd (hD.1 7 14 _ _ rfl rfl e9.symm) (by decide)
  | 8, _, e9 => exact absurd (hD.1 8 14 _ _ rfl rfl e9.symm) (by decide)
  | 9, _, e9 => exact absurd (hD.1 9 14 _ _ rfl rfl e9.symm) (by decide)
  | 10, _, e9 => exact absurd (hD.1 10 14 _ _ rfl rfl e9.symm) (by decide)
  | 11, _, e9 => exact absurd (hD.1 11 14 _ _ rfl rfl e9.symm) (by decide)
  | 12, _, e9 => exact absurd (hD.1 12 14 _ _ rfl rfl e9.symm) (by decide)
  | 13, _, e9 => exact absurd (hD.1 13 14 _ _ rfl rfl e9.symm) (by decide)
  | k + 14, hk, _ => exact absurd hk (by omega)
set_option maxHeartbeats 2000000 in
theorem law_start {p : Program} {l : Launch} {e : Env} {s : State} {m : MethodId} {args : Array Value} {below : List Frame} {meth : Method} {c : Code} {Q : State → Prop} {b L : Nat} {xs : Nat → Int32} {ls : Array Slot} (hst : l.stackTraces = false) (S0 : Fx p m c cL_law 9 s args RL) (hX : va_X b L xs s s.heap) (hbl : b < s.heap.size) (hL : L ≤ 2048) (hXF : ∀ q : Nat → Nat, (∀ a, Aq q a → s.heap.size ≤ a) → XF q s) (hNC : NC s)
    (hsh : ∀ (E : Ev) (dD : ClassId) (q0 q1 : Nat → Nat) (o od : Nat), LK E dD q0 q1 o od b L xs s → CaseAt p l e s m args below meth c Q E dD q0 q1 o od b L 1060)
    (hend : ∀ (H : Heap) (locs : List Loc) (cells slots : Nat) (ls : Array Slot), va_S (An s) s.heap H locs → cells ≤ 1067 → slots ≤ 8619 → W p l e room_1 s m args below meth c H locs cells slots Q (F0 m 1615 ls []))
    (hl : lv_has ls 9 [(0, .ref b)]) : W p l e room_1 s m args below meth c s.heap [] 0 0 Q (F0 m 0 ls []) := by
  have hx := S0.1
  have hb := S0.2.1
  have hown := S0.2.2.2.1
  have hts := S0.2.2.2.2
  obtain ⟨E, dD9, hK, -⟩ := k_of hts
  have hA : ∀ q, s.heap.size ≤ q → An s q := fun q h => h
  refine va_new (D := E.1) (cl := vwCl) (ws := []) (A := An s) (ci := 0) (fs := [.null, .null, .null, .null, .null, .null, .null, .null, .null, .null, .null, .null, .null, .int 0, .int 0, .int 0, .int 0]) hx hb hts in_X0 tyX0 tyX0_ok hown (hts _ cl_L_8) (hts _ inst_X0) (hts _ ini_X0) hK (fun k q hk => by simp at hk) ⟨fun i j p q hi => by simp at hi, fun k q hk => by simp at hk⟩ va_S.rf hA rfl (fun j hj => match j, hj with | 0, _ => rfl | 1, _ => rfl | 2, _ => rfl | 3, _ => rfl | 4, _ => rfl | 5, _ => rfl | 6, _ => rfl | 7, _ => rfl | 8, _ => rfl | 9, _ => rfl | 10, _ => rfl | 11, _ => rfl | 12, _ => rfl | 13, _ => rfl | 14, _ => rfl | 15, _ => rfl | 16, _ => rfl | j + 17, hj => absurd hj (by omega)) (Nat.le_of_ble_eq_true rfl) (Nat.le_of_ble_eq_true rfl) dL_law_0 (fun a0 H1 hP hD hS => ?_)
  have hP : va_P E.1 vwCl [(a0, .inr (0, [.null, .null, .null, .null, .null, .null, .null, .null, .null, .null, .null, .null, .null, .int 0, .int 0, .int 0, .int 0]))] H1 := hP
  have ha0 : s.heap.size ≤ a0 := hD.2 0 _ rfl
  have hl0 : a0 < H1.size := vx_lt hP (k := 0) rfl
  refine lv_dup hx hb dL_law_3 rfl ?_
  refine va_callv (va_runI (As := []) (rest := [.ref a0]) S0 (k_X0_init l E (T := 0) (C := 2) (by decide) ⟨by decide, by decide⟩ a0 H1.size) (cwI 0 hts (gw_ws cd_X0_init) rfl rfl rfl (hts _ ini_X0) (hts _ ml_L_89) (hts _ im_X0_init) rfl hd_X0_init.2 ⟨(Nat.le_of_ble_eq_true rfl), (Nat.le_of_ble_eq_true rfl)⟩) ⟨kI_blind, fun U hU hW => ⟨rfl, ⟨by rw [hU], by rw [hU]; exact hP⟩, KK.moved hW.alike hK⟩⟩ rfl rfl hl.1 rfl (lv_room (Nat.le_of_ble_eq_true rfl)) dL_law_4 ⟨(Nat.le_of_ble_eq_true rfl), (Nat.le_of_ble_eq_true rfl)⟩) hS (fun q _ h => (A1_of h).elim (fun h9 => by rw [h9]; exact ha0) (fun h9 => Nat.le_trans hS.1 h9)) (fun q h => (A1_of h).elim (fun h9 => by rw [h9]; exact ha0) (fun h9 => Nat.le_trans hS.1 h9)) (fun q0 t H2 locs2 ht hvm hw0 hP0 hz hk hS => ?_)
  rw [ht] at hP0
  obtain ⟨hq00, hq0, hn0⟩ := hw0
  have hn0 : ∀ a, Aq q0 a → s.heap.size ≤ a := fun a h => (hn0 a h).elim (fun h9 => by rw [h9]; exact ha0) (fun h9 => by have := hD.2 0 _ rfl; omega)
  have hz2 := hS.1
  refine lv_astore_n (i := 1) hx hb dL_law_7 rfl hl (by decide) rfl (fun ls hl => ?_)
  have hl : lv_has ls 9 [(1, .ref (q0 0)), (0, .ref b)] := by rw [hq00]; exact hl
  have hD0 : va_D (An s) ((q0 0, ob 0 q0 (g_X0_init 0 2).2.2) :: wr E q0 (g_X0_init 0 2)) := (D0 hq0).weaken (fun k x _ h => hn0 x.1 h)
  refine va_new (D := E.1) (cl := vwCl) (ws := ((q0 0, ob 0 q0 (g_X0_init 0 2).2.2) :: wr E q0 (g_X0_init 0 2))) (A := An s) (ci := 1) (fs := [.int 0, .int 0, .int 0, .int 0, .null, .null, .null, .null, .null, .null, .int 0, .null, .null, .null, .null, .null, .null, .null]) hx hb hts in_X1 tyX1 tyX1_ok hown (hts _ cl_L_90) (hts _ inst_X1) (hts _ ini_X1) hK hP0 hD0 hS hA rfl (fun j hj => match j, hj with | 0, _ => rfl | 1, _ => rfl | 2, _ => rfl | 3, _ => rfl | 4, _ => rfl | 5, _ => rfl | 6, _ => rfl | 7, _ => rfl | 8, _ => rfl | 9, _ => rfl | 10, _ => rfl | 11, _ => rfl | 12, _ => rfl | 13, _ => rfl | 14, _ => rfl | 15, _ => rfl | 16, _ => rfl | 17, _ => rfl | j + 18, hj => absurd hj (by omega)) (Nat.le_of_ble_eq_true rfl) (Nat.le_of_ble_eq_true rfl) dL_law_8 (fun a1 H3 hP hD hS => ?_)
  have hP0 : PP 0 E q0 (g_X0_init 0 2) H3 := hP.sub [0, 1, 2, 3, 4, 5, 6, 7, 8, 9, 10, 11, 12, 13] rfl
  have hPa : va_P E.1 vwCl [(a1, .inr (1, [.int 0, .int 0, .int 0, .int 0, .null, .null, .null, .null, .null, .null, .int 0, .null, .null, .null, .null, .null, .null, .null]))] H3 := hP.sub [14] rfl
  have ha1 : s.heap.size ≤ a1 := hD.2 14 _ rfl
  have hna : ¬ Aq q0 a1 := apart (k0 := 0) hD
  have hz3 := hS.1
  refine lv_dup hx hb dL_law_11 rfl ?_
  refine va_callv (va_runI (As := []) (rest := [.ref a1]) S0 (k_X1_init l E (T := 0) (C := 2) (by decide) ⟨by decide, by decide⟩ a1 H3.size) (cwI 0 hts (gw_ws cd_X1_init) rfl rfl rfl (hts _ ini_X1) (hts _ ml_L_92) (hts _ im_X1_init) rfl hd_X1_init.2 ⟨(Nat.le_of_ble_eq_true rfl), (Nat.le_of_ble_eq_true rfl)⟩) ⟨kI_blind, fun U hU hW => ⟨rfl, ⟨by rw [hU], by rw [hU]; exact hPa⟩, KK.moved hW.alike hK⟩⟩ rfl rfl hl.1 rfl (lv_room (Nat.le_of_ble_eq_true rfl)) dL_law_12 ⟨(Nat.le_of_ble_eq_true rfl), (Nat.le_of_ble_eq_true rfl)⟩) hS (fun q _ h => (A1_of h).elim (fun h9 => by rw [h9]; exact ha1) (fun h9 => Nat.le_trans hS.1 h9)) (fun q h => (A1_of h).elim (fun h9 => by rw [h9]; exact ha1) (fun h9 => Nat.le_trans hS.1 h9)) (fun q1 t1 H4 locs4 ht1 hvm1 hw1 hP1 hz1 hk1 hS => ?_)
  rw [ht1] at hP1
  obtain ⟨hq10, hq1, hn1⟩ := hw1
  have h01 : ∀ a, Aq q0 a → ¬ Aq q1 a := fun a h h9 => (hn1 a h9).elim (fun e9 => hna (by rw [← e9]; exact h)) (fun h8 => by
    obtain ⟨k, hk, e9⟩ := h
    have := hP0.lt k hk
    omega)
  have hn1 : ∀ a, Aq q1 a → s.heap.size ≤ a := fun a h => (hn1 a h).elim (fun h9 => by rw [h9]; exact ha1) (fun h9 => Nat.le_trans hz3 h9)
  have hP0 : PP 0 E q0 (g_X0_init 0 2) H4 := hP0.kept (fun a ha h => hk1 a ha (fun h9 => (A1_of h9).elim (fun e9 => hna (by rw [← e9]; exact h)) (fun h8 => absurd ha (Nat.not_lt.mpr h8))))
  have hP0 : PP 0 E q0 (g_X1_init 0 2) H4 := init_PP hP0
  refine lv_astore_n (i := 2) hx hb dL_law_15 rfl hl (by decide) rfl (fun ls hl => ?_)
  have hl : lv_has ls 9 [(2, .ref (q1 0)), (1, .ref (q0 0)), (0, .ref b)] := by rw [hq10]; exact hl
  refine lv_iconst (v := 1) hx hb dL_law_16 (by decide) ?_
  have hD1 : va_D (An s) (((q0 0, ob 0 q0 (g_X1_init 0 2).2.2) :: wr E q0 (g_X1_init 0 2)) ++ ((q1 0, ob 1 q1 (g_X1_init 0 2).2.2) :: wr E q1 (g_X1_init 0 2))) := va_D.app ((D0 hq0).weaken (fun k x _ h => hn0 x.1 h)) ((D0 hq1).weaken (fun k x _ h => hn1 x.1 h)) (fun i j x y hi hj e9 => h01 x.1 ((D0 (k := 0) hq0).2 i x hi) (by rw [e9]; exact (D0 (k := 1) hq1).2 j y hj))
  refine na_J (A := An s) (ws := ((q0 0, ob 0 q0 (g_X1_init 0 2).2.2) :: wr E q0 (g_X1_init 0 2)) ++ ((q1 0, ob 1 q1 (g_X1_init 0 2).2.2) :: wr E q1 (g_X1_init 0 2))) hx hb hts hK (va_P.app hP0 hP1) hD1 hS hA 1 (by decide) (by decide) (by decide) (Nat.le_of_ble_eq_true rfl) (Nat.le_of_ble_eq_true rfl) dL_law_17 (fun o H5 ho hP hD hS hz5 => ?_)
  have hO : OJ E o 0 H5 := ⟨_, rfl, hP.sub [28] rfl⟩
  have hP0' : PP 0 E q0 (g_X1_init 0 2) H5 := hP.sub [0, 1, 2, 3, 4, 5, 6, 7, 8, 9, 10, 11, 12, 13] rfl
  have hP1' : PP 1 E q1 (g_X1_init 0 2) H5 := hP.sub [14, 15, 16, 17, 18, 19, 20, 21, 22, 23, 24, 25, 26, 27] rfl
  have h0o : ¬ Aq q0 o := fun ⟨k, hk, e9⟩ => by have := hP0.lt k hk; omega
  have h1o : ¬ Aq q1 o := fun ⟨k, hk, e9⟩ => by have := hP1.lt k hk; omega
  have hno : s.heap.size ≤ o := hD.2 28 _ rfl
  refine lv_astore_n (i := 3) hx hb dL_law_19 rfl hl (by decide) rfl (fun ls hl => ?_)
  refine lv_iconst (v := 1) hx hb dL_law_20 (by decide) ?_
  refine va_newaK (atype := .double) (N := 1) hx hb (hts _ acl_double) rfl dL_law_21 rfl (by decide) (by decide) (by decide) (Nat.le_of_ble_eq_true rfl) (Nat.le_of_ble_eq_true rfl) rfl (fun H6 dD e1 z1 o1 hAr hNm => ?_)
  have hOD : OD E dD H5.size H6 := ⟨fun _ => 0, fun k x hk => by
    match k, hk with
    | 0, hk => cases hk; exact e1
    | k + 1, hk => simp at hk⟩
  have hKD : va_K E.1 vwCl [(dD, .double)] s := ⟨hK.1, fun k x hk => by
    match k, hk with
    | 0, hk => cases hk; exact ⟨hAr, hNm⟩
    | k + 1, hk => simp at hk⟩
  have hO := hO.kept (H1 := H6) (o1 o hO.lt)
  have hol : o < H5.size := vx_lt hP (k := 28) rfl
  have h0d : ¬ Aq q0 H5.size := fun ⟨k, hk, e9⟩ => by have := hP0'.lt k hk; omega
  have h1d : ¬ Aq q1 H5.size := fun ⟨k, hk, e9⟩ => by have := hP1'.lt k hk; omega
  have hP0 := hP0'.kept (H1 := H6) (fun a ha _ => o1 a ha)
  have hP1 := hP1'.kept (H1 := H6) (fun a ha _ => o1 a ha)
  have hS : va_S (An s) s.heap H6 locs4 := ⟨Nat.le_trans hS.1 (by omega), fun x h1 h2 => (o1 x (Nat.lt_of_lt_of_le h1 hS.1)).trans (hS.2.1 x h1 h2), hS.2.2⟩
  have K : LK E dD q0 q1 o H5.size b L xs s := ⟨⟨hq0, hq1, hn0, hn1, hno, Nat.le_trans hno (Nat.le_of_lt hol)⟩, ⟨h01, h0o, h1o, h0d, h1d, Nat.ne_of_lt hol⟩, ⟨hX, hbl, hL⟩, hK, hKD, hXF q0 hn0, hNC⟩
  show W p l e room_1 s m args below meth c H6 locs4 _ _ Q (F0 m 23 ls [.ref H5.size])
  refine lv_astore hx hb dL_law_23 hl (by decide) rfl (fun ls hl => ?_)
  refine lv_iconst (v := 0) hx hb dL_law_25 (by decide) ?_
  refine lv_istore hx hb dL_law_26 hl (by decide) rfl (fun ls hl => ?_)
  exact law_loop hst S0 K (hsh E dD q0 q1 o H5.size K) hend 512 0 0 2 (g_X1_init 0 2) H6 locs4 _ _ ls (by omega) (by decide) init_lp ⟨hP0, hP1, ⟨_, hO⟩, hOD, hS, (Nat.le_of_ble_eq_true rfl), (Nat.le_of_ble_eq_true rfl)⟩ (lv_sub hl [5, 4, 3, 2, 1, 0] rfl)
