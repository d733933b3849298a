/-! the law's start: two objects, two arrays -/
theorem arr_of {args : Array Value} {s : State} {ty : FieldType} (h : (Cond.arrayClass ty).before args s = true) : ∃ cA : ClassId, ArrOfT s cA ty ∧ s.vm.findClass ("[" ++ ty.toString) = some cA := by
  obtain ⟨cA, kA, comp, h1, h2, h3⟩ := Cond.arrayClass_spec h
  exact ⟨cA, fun n z => ⟨fun k h => (by cases h), kA, h2, comp, h3⟩, h1⟩
theorem k_of {args : Array Value} {s : State} (hts : ∀ w ∈ lw_all, w.before args s = true) : ∃ (E : Ev) (dD : ClassId), KK E s ∧ va_K E.1 vwCl [(dD, .double)] s := by
  obtain ⟨c0, i0, k0⟩ := u_known (C := RX0) (T := TX0) (N := 17) (n := 17) hts in_X0 (hts _ inst_X0)
  obtain ⟨c1, i1, k1⟩ := u_known (C := RX1) (T := TX1) (N := 18) (n := 18) hts in_X1 (hts _ inst_X1)
  obtain ⟨aI, hI1, hI2⟩ := arr_of (hts _ acl_int)
  obtain ⟨aJ, hJ1, hJ2⟩ := arr_of (hts _ acl_long)
  obtain ⟨aZ, hZ1, hZ2⟩ := arr_of (hts _ acl_boolean)
  obtain ⟨aD, hD1, hD2⟩ := arr_of (hts _ acl_double)
  have hc : ∀ (c : Nat) (q : vw_C), vwCl[c]? = some q → u_Kn s q.1 q.2.1 q.2.2 ((fun c : Nat => if c = 0 then c0 else c1) c) ((fun c : Nat => if c = 0 then i0 else i1) c) := by
    intro c q hq
    match c, hq with
    | 0, hq => cases hq; exact k0
    | 1, hq => cases hq; exact k1
    | c + 2, hq => simp [vwCl] at hq
  refine ⟨((fun c : Nat => if c = 0 then c0 else c1, fun c : Nat => if c = 0 then i0 else i1), aI, aJ, aZ), aD, ⟨hc, fun k q hk => ?_⟩, ⟨hc, fun k q hk => ?_⟩⟩
  · match k, hk with
    | 0, hk => cases hk; exact ⟨hI1, hI2⟩
    | 1, hk => cases hk; exact ⟨hJ1, hJ2⟩
    | 2, hk => cases hk; exact ⟨hZ1, hZ2⟩
    | k + 3, hk => simp at hk
  · match k, hk with
    | 0, hk => cases hk; exact ⟨hD1, hD2⟩
    | k + 1, hk => simp at hk
theorem PP0_eq {E : Ev} {q : Nat → Nat} {H : Heap} {σ τ : St} (h1 : τ.1 = σ.1) (h2 : τ.2.1 = σ.2.1) (h13 : τ.2.2 13 = σ.2.2 13) (h14 : τ.2.2 14 = σ.2.2 14) (h15 : τ.2.2 15 = σ.2.2 15) (h16 : τ.2.2 16 = σ.2.2 16) (h : PP 0 E q σ H) : PP 0 E q τ H := by
  have e : (q 0, ob 0 q τ.2.2) :: wr E q τ = (q 0, ob 0 q σ.2.2) :: wr E q σ := by simp only [ob, wr, h1, h2, h13, h14, h15, h16]
  unfold PP
  rw [e]
  exact h
theorem init_PP {E : Ev} {q : Nat → Nat} {H : Heap} (h : PP 0 E q (g_X0_init 0 2) H) : PP 0 E q (g_X1_init 0 2) H := by
  have e : g_X1_init 0 2 = g_X0_startAnew 0 2 (sS z0 13 2) 2 := anew_eq _ _
  rw [e]
  exact PP0_eq (σ := g_X0_init 0 2) rfl rfl rfl rfl rfl rfl h
theorem init_lp : LPs 0 2 0 (g_X1_init 0 2) := by
  have e : g_X1_init 0 2 = g_X0_startAnew 0 2 (sS z0 13 2) 2 := anew_eq _ _
  rw [e]
  exact ⟨by decide, ⟨by decide, by decide⟩, inv_anew (D := 2) (sS z0 13 2) (fun k => by show vp_in 0 8; unfold vp_in; decide), Or.inl rfl, fun k => ⟨0, 0, rfl, rfl, by decide⟩⟩
theorem A1_of {a sz q : Nat} {e : va_E} (h : va_A [(a, e)] sz q) : q = a ∨ sz ≤ q := by
  rcases h with ⟨k, e1, h⟩ | h
  · match k, h with
    | 0, h => cases h; exact Or.inl rfl
    | k + 1, h => simp at h
  · exact Or.inr h
theorem kI_blind {E : Ev} {h0 sz : Nat} {ws : va_W} : FrameBlind (va_Pc [.ref h0] (fun U => (U.heap.size = sz ∧ va_P E.1 vwCl ws U.heap) ∧ KK E U)) := fun _ _ _ _ h => ⟨h.1, h.2.1, KK.moved (Vm.Alike.refl _) h.2.2⟩
set_option maxHeartbeats 2000000 in
theorem law_start {p : Program} {l : Launch} {e : Env} {s : State} {m : MethodId} {args : Array Value} {below : List Frame} {meth : Method} {c : Code} {Q : State → Prop} {b L : Nat} {xs : Nat → Int32} {ls : Array Slot} (hst : l.stackTraces = false) (S0 : Fx p m c cL_law 9 s args RL) (hX : va_X b L xs s s.heap) (hbl : b < s.heap.size) (hL : L ≤ 2048) (hXF : ∀ q : Nat → Nat, (∀ a, Aq q a → s.heap.size ≤ a) → XF q s) (hNC : NC s)
    (hsh : ∀ (E : Ev) (dD : ClassId) (q0 q1 : Nat → Nat) (o od : Nat), LK E dD q0 q1 o od b L xs s → CaseAt p l e s m args below meth c Q E dD q0 q1 o od b L 1060)
    (hend : ∀ (H : Heap) (locs : List Loc) (cells slots : Nat) (ls : Array Slot), va_S (An s) s.heap H locs → cells ≤ 1067 → slots ≤ 8619 → W p l e room_1 s m args below meth c H locs cells slots Q (F0 m 1615 ls []))
    (hl : lv_has ls 9 [(0, .ref b)]) : W p l e room_1 s m args below meth c s.heap [] 0 0 Q (F0 m 0 ls []) := by
  have hx := S0.1
  have hb := S0.2.1
  have hown := S0.2.2.2.1
  have hts := S0.2.2.2.2
  obtain ⟨E, dD9, hK, -⟩ := k_of hts
  have hA : ∀ q, s.heap.size ≤ q → An s q := fun q h => h
  refine va_new (D := E.1) (cl := vwCl) (ws := []) (A := An s) (ci := 0) (fs := [.null, .null, .null, .null, .null, .null, .null, .null, .null, .null, .null, .null, .null, .int 0, .int 0, .int 0, .int 0]) hx hb hts in_X0 tyX0 tyX0_ok hown (hts _ cl_L_8) (hts _ inst_X0) (hts _ ini_X0) hK (fun k q hk => by simp at hk) ⟨fun i j p q hi => by simp at hi, fun k q hk => by simp at hk⟩ va_S.rf hA rfl (fun j hj => match j, hj with | 0, _ => rfl | 1, _ => rfl | 2, _ => rfl | 3, _ => rfl | 4, _ => rfl | 5, _ => rfl | 6, _ => rfl | 7, _ => rfl | 8, _ => rfl | 9, _ => rfl | 10, _ => rfl | 11, _ => rfl | 12, _ => rfl | 13, _ => rfl | 14, _ => rfl | 15, _ => rfl | 16, _ => rfl | j + 17, hj => absurd hj (by omega)) (Nat.le_of_ble_eq_true rfl) (Nat.le_of_ble_eq_true rfl) dL_law_0 (fun a0 H1 hP hD hS => ?_)
  have hP : va_P E.1 vwCl [(a0, .inr (0, [.null, .null, .null, .null, .null, .null, .null, .null, .null, .null, .null, .null, .null, .int 0, .int 0, .int 0, .int 0]))] H1 := hP
  have ha0 : s.heap.size ≤ a0 := hD.2 0 _ rfl
  have hl0 : a0 < H1.size := vx_lt hP (k := 0) rfl
  refine lv_dup hx hb dL_law_3 rfl ?_
  refine va_callv (va_runI (As := []) (rest := [.ref a0]) S0 (k_X0_init l E (T := 0) (C := 2) (by decide) ⟨by decide, by decide⟩ a0 H1.size) (cwI 0 hts (gw_ws cd_X0_init) rfl rfl rfl (hts _ ini_X0) (hts _ ml_L_89) (hts _ im_X0_init) rfl hd_X0_init.2 ⟨(Nat.le_of_ble_eq_true rfl), (Nat.le_of_ble_eq_true rfl)⟩) ⟨kI_blind, fun U hU hW => ⟨rfl, ⟨by rw [hU], by rw [hU]; exact hP⟩, KK.moved hW.alike hK⟩⟩ rfl rfl hl.1 rfl (lv_room (Nat.le_of_ble_eq_true rfl)) dL_law_4 ⟨(Nat.le_of_ble_eq_true rfl), (Nat.le_of_ble_eq_true rfl)⟩) hS (fun q _ h => (A1_of h).elim (fun h9 => by rw [h9]; exact ha0) (fun h9 => Nat.le_trans hS.1 h9)) (fun q h => (A1_of h).elim (fun h9 => by rw [h9]; exact ha0) (fun h9 => Nat.le_trans hS.1 h9)) (fun q0 t H2 locs2 ht hvm hw0 hP0 hz hk hS => ?_)
  rw [ht] at hP0
  obtain ⟨hq00, hq0, hn0⟩ := hw0
  have hn0 : ∀ a, Aq q0 a → s.heap.size ≤ a := fun a h => (hn0 a h).elim (fun h9 => by rw [h9]; exact ha0) (fun h9 => by have := hD.2 0 _ rfl; omega)
  sorry
