theorem divle {x : Int32} (h : (1 : Int32) ≤ x) : ¬ x = 0 := fun e => absurd h (by rw [e]; decide)
theorem nbf {x : Int32} (h : x = 0 ∨ x = 1) : narrow .boolean (.int x) = .int x ∧ fits .boolean (.int x) = true := by rcases h with rfl | rfl <;> exact ⟨rfl, rfl⟩
theorem mx_ml : Cond.methodLink RX0 170 Lib.MathLoose.max_long.x ∈ lw_all := ml_X0_170
theorem mx_st : Cond.static Lib.MathLoose.max_long.x ∈ lw_all := st_J9_max_f86c9
theorem mx_cd : Cond.code Lib.MathLoose.max_long.x Lib.MathLoose.max_long.code 4 (some .long) ∈ lw_all := by have h := cd_J9_max_f86c9; exact h
theorem mmx {p : Program} {l : Launch} {e : Env} {R : Room} {s : State} {m : MethodId} {args : Array Value} {below : List Frame} {meth : Method} {c : Code} {H : Heap} {locs : List Loc} {cells slots : Nat} {Q : State → Prop} {cc : ByteArray} {pc : Nat} {ls : Array Slot} {rest : List Value} (hx : p.tables.exec = Jvm.exec) (hb : c.code = cc) (hml : c.maxLocals = ls.size) (hown : s.vm.findClass RX0 = some m.cls) (hts : ∀ w ∈ lw_all, w.before args s = true)
    (hframes : 1 ≤ R.frames) (hlocals : (rest.map fun v => v.category).sum + 15 ≤ R.locals) (hcs : cells ≤ R.cells ∧ slots ≤ R.slots) {x y : Int64} (hdg : decode cc pc = .ok (.invokestatic 170, 3))
    (kk : W p l e R s m args below meth c H locs cells slots Q (F0 m (pc + 3) ls (.long (if y < x then x else y) :: rest))) : W p l e R s m args below meth c H locs cells slots Q (F0 m pc ls (.long y :: .long x :: rest)) :=
  va_mmax_long hx hb hml hown (hts _ mx_ml) (hts _ mx_st) (hts _ ini_J9) (hts _ mx_cd) hframes hlocals hcs.1 hcs.2 hdg kk
theorem cpuT {T C : Nat} {σ : St} (hI : Inv T C σ) : (2 : Int32) * σ.2.2 13 = nI (2 * C) := by
  rw [hI.2.2.1]
  show Int32.ofNat 2 * Int32.ofNat C = Int32.ofNat (2 * C)
  exact (Int32.ofNat_mul 2 C).symm
theorem mul2 (j : Nat) : (2 : Int32) * nI j = nI (2 * j) := (Int32.ofNat_mul 2 j).symm
theorem nI_p2 (a : Nat) : nI a + 2 = nI (a + 2) := nI_add a 2
def f_X0_cpuTotal (T C : Nat) (σ : St) : Int32 := (2 * (σ.2.2 13))
def rm_X0_cpuTotal : Room := { frames := 0, cells := 0, slots := 0, locals := 0 }
set_option maxHeartbeats 1600000 in
set_option maxRecDepth 100000 in
theorem k_X0_cpuTotal (l : Launch) (E : Ev) (q : Nat → Nat) (hq : Dq q) {T C : Nat} (hT : T ≤ 16) (hC : 1 ≤ C ∧ C ≤ 4) (σ : St) (hI : Inv T C σ) : RI l 0 E q σ yX0_cpuTotal cX0_cpuTotal 1 (some .int) rm_X0_cpuTotal [] (f_X0_cpuTotal T C σ) True := by
  refine Met.ofB (by decide) (Nat.le_of_ble_eq_true rfl) (fun p e s m args below meth c ls Q B hQ hPK hl => ?_)
  obtain ⟨hx, hb, hml, hr, hlocks, hown, hts⟩ := B
  have S0 : Fx p m c cX0_cpuTotal 1 s args RX0 := ⟨hx, hb, hml, hown, hts⟩
  obtain ⟨hP, hK⟩ := hPK
  have hl : lv_has ls 1 [(0, .ref (q 0))] := hl
  have hI0 := hI
  refine lv_iconst (v := 2) hx hb dX0_cpuTotal_0 (by decide) ?_
  refine lv_aload_n hx hb dX0_cpuTotal_1 rfl (lv_at hl 0 rfl) ?_
  refine gf_X0_62 hx hb hts hown hK hP dX0_cpuTotal_2 ?_
  refine lv_imul hx hb dX0_cpuTotal_5 ?_
  exact rt_RI hQ hx hb hr hlocks ⟨rfl, trivial⟩ dX0_cpuTotal_6
def F_X0_positionOf_4 (T : Nat) (C : Nat) (σ : St) (t : Int32) : Nat → Int32 → Int32 := fun i_4 z => (if (f_X0_isQueued T C σ (nI i_4) (σ.1 0 (ix t))) = 0 then z else (if (f_X0_comesBefore T C σ (nI i_4) t) = 0 then z else (z + 1)))
def f_X0_positionOf (T C : Nat) (σ : St) (t : Int32) : Int32 := (lp (F_X0_positionOf_4 T C σ t) T 0 0)
def rm_X0_positionOf : Room := { frames := 2, cells := 0, slots := 0, locals := 47 }
set_option maxHeartbeats 1600000 in
set_option maxRecDepth 100000 in
theorem k_X0_positionOf (l : Launch) (E : Ev) (q : Nat → Nat) (hq : Dq q) {T C : Nat} (hT : T ≤ 16) (hC : 1 ≤ C ∧ C ≤ 4) (σ : St) (hI : Inv T C σ) (t : Int32) (hp0 : vp_in t 16) : RI l 0 E q σ yX0_positionOf cX0_positionOf 4 (some .int) rm_X0_positionOf [.int t] (f_X0_positionOf T C σ t) True := by
  refine Met.ofB (by decide) (Nat.le_of_ble_eq_true rfl) (fun p e s m args below meth c ls Q B hQ hPK hl => ?_)
  obtain ⟨hx, hb, hml, hr, hlocks, hown, hts⟩ := B
  have S0 : Fx p m c cX0_positionOf 4 s args RX0 := ⟨hx, hb, hml, hown, hts⟩
  obtain ⟨hP, hK⟩ := hPK
  have hl : lv_has ls 4 [(0, .ref (q 0)), (1, .int t)] := hl
  have hI0 := hI
  refine lv_iconst (v := 0) hx hb dX0_positionOf_0 (by decide) ?_
  refine lv_istore_n (lv' := [(2, .int 0), (0, .ref (q 0)), (1, .int t)]) hx hb dX0_positionOf_1 rfl hl (by decide) rfl (fun ls hl => ?_)
  refine lv_iconst (v := 0) hx hb dX0_positionOf_2 (by decide) ?_
  refine lv_istore_n (lv' := [(3, .int 0), (2, .int 0), (0, .ref (q 0)), (1, .int t)]) hx hb dX0_positionOf_3 rfl hl (by decide) rfl (fun ls hl => ?_)
  have L_4 : ∀ (n_4 i_4 : Nat) (a2_4 : Int32) (ls : Array Slot), i_4 + n_4 = T → lp (F_X0_positionOf_4 T C σ t) n_4 i_4 a2_4 = (lp (F_X0_positionOf_4 T C σ t) T 0 0) → lv_has ls 4 [(3, .int (nI i_4)), (2, .int a2_4), (0, .ref (q 0)), (1, .int t)] → W p l e rm_X0_positionOf s m args below meth c s.heap [] 0 0 Q (F0 m 4 ls []) := by
    intro n_4
    induction n_4 with
    | zero =>
      intro i_4 a2_4 ls hi_4 hres_4 hl
      have hres : a2_4 = (lp (F_X0_positionOf_4 T C σ t) T 0 0) := hres_4
      subst hres
      refine lv_iload_n hx hb dX0_positionOf_4 rfl (lv_at hl 0 rfl) ?_
      refine lv_aload_n hx hb dX0_positionOf_5 rfl (lv_at hl 2 rfl) ?_
      refine gf_X0_85 hx hb hts hown hK hP dX0_positionOf_6 ?_
      refine lv_icmp_ge (tgt := 44) hx hb dX0_positionOf_9 (by decide) (fun _ => ?_) (fun h => absurd (lp_out hI.2.1 (by omega) hi_4) h)
      have hl := lv_sub (l' := [(2, .int (lp (F_X0_positionOf_4 T C σ t) T 0 0)), (0, .ref (q 0)), (1, .int t)]) hl [1, 2, 3] rfl
      refine lv_iload_n hx hb dX0_positionOf_44 rfl (lv_at hl 0 rfl) ?_
      exact rt_RI hQ hx hb hr hlocks ⟨rfl, trivial⟩ dX0_positionOf_45
    | succ n_4 ih_4 =>
      intro i_4 a2_4 ls hi_4 hres_4 hl
      refine lv_iload_n hx hb dX0_positionOf_4 rfl (lv_at hl 0 rfl) ?_
      refine lv_aload_n hx hb dX0_positionOf_5 rfl (lv_at hl 2 rfl) ?_
      refine gf_X0_85 hx hb hts hown hK hP dX0_positionOf_6 ?_
      refine lv_icmp_ge (tgt := 44) hx hb dX0_positionOf_9 (by decide) (fun h => absurd h (lp_in hI.2.1 (by omega) hi_4)) (fun _ => ?_)
      refine lv_aload_n hx hb dX0_positionOf_12 rfl (lv_at hl 2 rfl) ?_
      refine lv_iload_n hx hb dX0_positionOf_13 rfl (lv_at hl 0 rfl) ?_
      refine lv_aload_n hx hb dX0_positionOf_14 rfl (lv_at hl 2 rfl) ?_
      refine gf_X0_9 hx hb hts hown hK hP dX0_positionOf_15 ?_
      refine lv_iload_n hx hb dX0_positionOf_18 rfl (lv_at hl 3 rfl) ?_
      refine ld_0 hx hb hK hP hp0 dX0_positionOf_19 ?_
      refine cl_RI (k_X0_isQueued l E q hq hT hC σ hI (nI i_4) (σ.1 0 (ix t)) (vp_in_nI (by omega) (by decide))) gw_X0_130 hd_X0_isQueued ⟨rfl, rfl⟩ S0 hK hP (rest := []) rfl hl.1 (Nat.le_of_ble_eq_true rfl) ⟨(Nat.le_of_ble_eq_true rfl), (Nat.le_of_ble_eq_true rfl)⟩ ⟨Nat.zero_le _, Nat.zero_le _⟩ dX0_positionOf_20 (fun hex => ?_)
      refine cutG (fun ls H locs st => ∃ x2 : Int32, x2 = (if (f_X0_isQueued T C σ (nI i_4) (σ.1 0 (ix t))) = 0 then a2_4 else (if (f_X0_comesBefore T C σ (nI i_4) t) = 0 then a2_4 else (a2_4 + 1))) ∧ st = [] ∧ lv_has ls 4 [(3, .int (nI i_4)), (2, .int x2), (0, .ref (q 0)), (1, .int t)] ∧ H = s.heap ∧ locs = []) 38 (fun ls H locs st hKp => ?_) (fun K23 => ?_)
      · revert hKp
        refine ex_eq (fun hKp => ?_)
        obtain ⟨rfl, hl, rfl, rfl⟩ := hKp
        refine lv_iinc (v := (nI (i_4 + 1))) (lv' := [(3, .int (nI (i_4 + 1))), (2, .int (if (f_X0_isQueued T C σ (nI i_4) (σ.1 0 (ix t))) = 0 then a2_4 else (if (f_X0_comesBefore T C σ (nI i_4) t) = 0 then a2_4 else (a2_4 + 1)))), (0, .ref (q 0)), (1, .int t)]) hx hb dX0_positionOf_38 hl (k := 0) rfl (nI_1 _) (by decide) rfl (fun ls hl => ?_)
        refine lv_goto (tgt := 4) hx hb dX0_positionOf_41 (by decide) ?_
        exact ih_4 (i_4 + 1) (if (f_X0_isQueued T C σ (nI i_4) (σ.1 0 (ix t))) = 0 then a2_4 else (if (f_X0_comesBefore T C σ (nI i_4) t) = 0 then a2_4 else (a2_4 + 1))) ls (by omega) hres_4 (lv_sub (l' := [(3, .int (nI (i_4 + 1))), (2, .int (if (f_X0_isQueued T C σ (nI i_4) (σ.1 0 (ix t))) = 0 then a2_4 else (if (f_X0_comesBefore T C σ (nI i_4) t) = 0 then a2_4 else (a2_4 + 1)))), (0, .ref (q 0)), (1, .int t)]) hl [0, 1, 2, 3] rfl)
      · refine lv_if_eq (tgt := 38) hx hb dX0_positionOf_23 (by decide) (fun h23 => ?_) (fun h23 => ?_)
        · skip
          exact K23 _ _ _ _ ⟨a2_4, (Eq.symm (if_pos h23)), rfl, lv_sub hl [0, 1, 2, 3] rfl, rfl, rfl⟩
        · skip
          refine lv_aload_n hx hb dX0_positionOf_26 rfl (lv_at hl 2 rfl) ?_
          refine lv_iload_n hx hb dX0_positionOf_27 rfl (lv_at hl 0 rfl) ?_
          refine lv_iload_n hx hb dX0_positionOf_28 rfl (lv_at hl 3 rfl) ?_
          refine cl_RI (k_X0_comesBefore l E q hq hT hC σ hI (nI i_4) t (vp_in_nI (by omega) (by decide)) (vo_in hp0)) gw_X0_167 hd_X0_comesBefore ⟨rfl, rfl⟩ S0 hK hP (rest := []) rfl hl.1 (Nat.le_of_ble_eq_true rfl) ⟨(Nat.le_of_ble_eq_true rfl), (Nat.le_of_ble_eq_true rfl)⟩ ⟨Nat.zero_le _, Nat.zero_le _⟩ dX0_positionOf_29 (fun hex => ?_)
          refine lv_if_eq (tgt := 38) hx hb dX0_positionOf_32 (by decide) (fun h32 => ?_) (fun h32 => ?_)
          · skip
            exact K23 _ _ _ _ ⟨a2_4, (Eq.symm (Eq.trans (if_neg h23) (if_pos h32))), rfl, lv_sub hl [0, 1, 2, 3] rfl, rfl, rfl⟩
          · skip
            refine lv_iinc (v := (a2_4 + 1)) (lv' := [(2, .int (a2_4 + 1)), (3, .int (nI i_4)), (0, .ref (q 0)), (1, .int t)]) hx hb dX0_positionOf_35 hl (k := 1) rfl rfl (by decide) rfl (fun ls hl => ?_)
            exact K23 _ _ _ _ ⟨(a2_4 + 1), (Eq.symm (Eq.trans (if_neg h23) (if_neg h32))), rfl, lv_sub hl [1, 0, 2, 3] rfl, rfl, rfl⟩
  exact L_4 T 0 0 ls (Nat.zero_add T) rfl (lv_sub hl [0, 1, 2, 3] rfl)
def F_X0_countQueue_4 (T : Nat) (C : Nat) (σ : St) (c9 : Int32) : Nat → Int32 → Int32 := fun i_4 z => (if (f_X0_isQueued T C σ (nI i_4) c9) = 0 then z else (z + 1))
def f_X0_countQueue (T C : Nat) (σ : St) (c9 : Int32) : Int32 := (lp (F_X0_countQueue_4 T C σ c9) T 0 0)
def rm_X0_countQueue : Room := { frames := 2, cells := 0, slots := 0, locals := 43 }
set_option maxHeartbeats 1600000 in
set_option maxRecDepth 100000 in
theorem k_X0_countQueue (l : Launch) (E : Ev) (q : Nat → Nat) (hq : Dq q) {T C : Nat} (hT : T ≤ 16) (hC : 1 ≤ C ∧ C ≤ 4) (σ : St) (hI : Inv T C σ) (c9 : Int32) : RI l 0 E q σ yX0_countQueue cX0_countQueue 4 (some .int) rm_X0_countQueue [.int c9] (f_X0_countQueue T C σ c9) True := by
  refine Met.ofB (by decide) (Nat.le_of_ble_eq_true rfl) (fun p e s m args below meth c ls Q B hQ hPK hl => ?_)
  obtain ⟨hx, hb, hml, hr, hlocks, hown, hts⟩ := B
  have S0 : Fx p m c cX0_countQueue 4 s args RX0 := ⟨hx, hb, hml, hown, hts⟩
  obtain ⟨hP, hK⟩ := hPK
  have hl : lv_has ls 4 [(0, .ref (q 0)), (1, .int c9)] := hl
  have hI0 := hI
  refine lv_iconst (v := 0) hx hb dX0_countQueue_0 (by decide) ?_
  refine lv_istore_n (lv' := [(2, .int 0), (0, .ref (q 0)), (1, .int c9)]) hx hb dX0_countQueue_1 rfl hl (by decide) rfl (fun ls hl => ?_)
  refine lv_iconst (v := 0) hx hb dX0_countQueue_2 (by decide) ?_
  refine lv_istore_n (lv' := [(3, .int 0), (2, .int 0), (0, .ref (q 0)), (1, .int c9)]) hx hb dX0_countQueue_3 rfl hl (by decide) rfl (fun ls hl => ?_)
  have L_4 : ∀ (n_4 i_4 : Nat) (a2_4 : Int32) (ls : Array Slot), i_4 + n_4 = T → lp (F_X0_countQueue_4 T C σ c9) n_4 i_4 a2_4 = (lp (F_X0_countQueue_4 T C σ c9) T 0 0) → lv_has ls 4 [(3, .int (nI i_4)), (2, .int a2_4), (0, .ref (q 0)), (1, .int c9)] → W p l e rm_X0_countQueue s m args below meth c s.heap [] 0 0 Q (F0 m 4 ls []) := by
    intro n_4
    induction n_4 with
    | zero =>
      intro i_4 a2_4 ls hi_4 hres_4 hl
      have hres : a2_4 = (lp (F_X0_countQueue_4 T C σ c9) T 0 0) := hres_4
      subst hres
      refine lv_iload_n hx hb dX0_countQueue_4 rfl (lv_at hl 0 rfl) ?_
      refine lv_aload_n hx hb dX0_countQueue_5 rfl (lv_at hl 2 rfl) ?_
      refine gf_X0_85 hx hb hts hown hK hP dX0_countQueue_6 ?_
      refine lv_icmp_ge (tgt := 30) hx hb dX0_countQueue_9 (by decide) (fun _ => ?_) (fun h => absurd (lp_out hI.2.1 (by omega) hi_4) h)
      have hl := lv_sub (l' := [(2, .int (lp (F_X0_countQueue_4 T C σ c9) T 0 0)), (0, .ref (q 0)), (1, .int c9)]) hl [1, 2, 3] rfl
      refine lv_iload_n hx hb dX0_countQueue_30 rfl (lv_at hl 0 rfl) ?_
      exact rt_RI hQ hx hb hr hlocks ⟨rfl, trivial⟩ dX0_countQueue_31
    | succ n_4 ih_4 =>
      intro i_4 a2_4 ls hi_4 hres_4 hl
      refine lv_iload_n hx hb dX0_countQueue_4 rfl (lv_at hl 0 rfl) ?_
      refine lv_aload_n hx hb dX0_countQueue_5 rfl (lv_at hl 2 rfl) ?_
      refine gf_X0_85 hx hb hts hown hK hP dX0_countQueue_6 ?_
      refine lv_icmp_ge (tgt := 30) hx hb dX0_countQueue_9 (by decide) (fun h => absurd h (lp_in hI.2.1 (by omega) hi_4)) (fun _ => ?_)
      refine lv_aload_n hx hb dX0_countQueue_12 rfl (lv_at hl 2 rfl) ?_
      refine lv_iload_n hx hb dX0_countQueue_13 rfl (lv_at hl 0 rfl) ?_
      refine lv_iload_n hx hb dX0_countQueue_14 rfl (lv_at hl 3 rfl) ?_
      refine cl_RI (k_X0_isQueued l E q hq hT hC σ hI (nI i_4) c9 (vp_in_nI (by omega) (by decide))) gw_X0_130 hd_X0_isQueued ⟨rfl, rfl⟩ S0 hK hP (rest := []) rfl hl.1 (Nat.le_of_ble_eq_true rfl) ⟨(Nat.le_of_ble_eq_true rfl), (Nat.le_of_ble_eq_true rfl)⟩ ⟨Nat.zero_le _, Nat.zero_le _⟩ dX0_countQueue_15 (fun hex => ?_)
      refine cutG (fun ls H locs st => ∃ x2 : Int32, x2 = (if (f_X0_isQueued T C σ (nI i_4) c9) = 0 then a2_4 else (a2_4 + 1)) ∧ st = [] ∧ lv_has ls 4 [(3, .int (nI i_4)), (2, .int x2), (0, .ref (q 0)), (1, .int c9)] ∧ H = s.heap ∧ locs = []) 24 (fun ls H locs st hKp => ?_) (fun K18 => ?_)
      · revert hKp
        refine ex_eq (fun hKp => ?_)
        obtain ⟨rfl, hl, rfl, rfl⟩ := hKp
        refine lv_iinc (v := (nI (i_4 + 1))) (lv' := [(3, .int (nI (i_4 + 1))), (2, .int (if (f_X0_isQueued T C σ (nI i_4) c9) = 0 then a2_4 else (a2_4 + 1))), (0, .ref (q 0)), (1, .int c9)]) hx hb dX0_countQueue_24 hl (k := 0) rfl (nI_1 _) (by decide) rfl (fun ls hl => ?_)
        refine lv_goto (tgt := 4) hx hb dX0_countQueue_27 (by decide) ?_
        exact ih_4 (i_4 + 1) (if (f_X0_isQueued T C σ (nI i_4) c9) = 0 then a2_4 else (a2_4 + 1)) ls (by omega) hres_4 (lv_sub (l' := [(3, .int (nI (i_4 + 1))), (2, .int (if (f_X0_isQueued T C σ (nI i_4) c9) = 0 then a2_4 else (a2_4 + 1))), (0, .ref (q 0)), (1, .int c9)]) hl [0, 1, 2, 3] rfl)
      · refine lv_if_eq (tgt := 24) hx hb dX0_countQueue_18 (by decide) (fun h18 => ?_) (fun h18 => ?_)
        · skip
          exact K18 _ _ _ _ ⟨a2_4, (Eq.symm (if_pos h18)), rfl, lv_sub hl [0, 1, 2, 3] rfl, rfl, rfl⟩
        · skip
          refine lv_iinc (v := (a2_4 + 1)) (lv' := [(2, .int (a2_4 + 1)), (3, .int (nI i_4)), (0, .ref (q 0)), (1, .int c9)]) hx hb dX0_countQueue_21 hl (k := 1) rfl rfl (by decide) rfl (fun ls hl => ?_)
          exact K18 _ _ _ _ ⟨(a2_4 + 1), (Eq.symm (if_neg h18)), rfl, lv_sub hl [1, 0, 2, 3] rfl, rfl, rfl⟩
  exact L_4 T 0 0 ls (Nat.zero_add T) rfl (lv_sub hl [0, 1, 2, 3] rfl)
def F_X0_findOwn_5 (T : Nat) (C : Nat) (σ : St) (c9 : Int32) (k9 : Int32) : Nat → Int32 → Int32 := fun i_5 z => (if (f_X0_isQueued T C σ (nI i_5) c9) = 0 then z else (if (σ.1 2 (ix (nI i_5))) = k9 then (if (f_X0_comesBefore T C σ (nI i_5) z) = 0 then z else (nI i_5)) else z))
def f_X0_findOwn (T C : Nat) (σ : St) (c9 : Int32) (k9 : Int32) : Int32 := (lp (F_X0_findOwn_5 T C σ c9 k9) T 0 (-1))
def rm_X0_findOwn : Room := { frames := 2, cells := 0, slots := 0, locals := 47 }
set_option maxHeartbeats 1600000 in
set_option maxRecDepth 100000 in
theorem k_X0_findOwn (l : Launch) (E : Ev) (q : Nat → Nat) (hq : Dq q) {T C : Nat} (hT : T ≤ 16) (hC : 1 ≤ C ∧ C ≤ 4) (σ : St) (hI : Inv T C σ) (c9 : Int32) (k9 : Int32) : RI l 0 E q σ yX0_findOwn cX0_findOwn 5 (some .int) rm_X0_findOwn [.int c9, .int k9] (f_X0_findOwn T C σ c9 k9) (vo (f_X0_findOwn T C σ c9 k9) ∧ True) := by
  refine Met.ofB (by decide) (Nat.le_of_ble_eq_true rfl) (fun p e s m args below meth c ls Q B hQ hPK hl => ?_)
  obtain ⟨hx, hb, hml, hr, hlocks, hown, hts⟩ := B
  have S0 : Fx p m c cX0_findOwn 5 s args RX0 := ⟨hx, hb, hml, hown, hts⟩
  obtain ⟨hP, hK⟩ := hPK
  have hl : lv_has ls 5 [(0, .ref (q 0)), (1, .int c9), (2, .int k9)] := hl
  have hI0 := hI
  refine lv_iconst (v := -1) hx hb dX0_findOwn_0 (by decide) ?_
  refine lv_istore_n (lv' := [(3, .int (-1)), (0, .ref (q 0)), (1, .int c9), (2, .int k9)]) hx hb dX0_findOwn_1 rfl hl (by decide) rfl (fun ls hl => ?_)
  refine lv_iconst (v := 0) hx hb dX0_findOwn_2 (by decide) ?_
  refine lv_istore (lv' := [(4, .int 0), (3, .int (-1)), (0, .ref (q 0)), (1, .int c9), (2, .int k9)]) hx hb dX0_findOwn_3 hl (by decide) rfl (fun ls hl => ?_)
  have L_5 : ∀ (n_5 i_5 : Nat) (a3_5 : Int32) (ls : Array Slot), i_5 + n_5 = T → lp (F_X0_findOwn_5 T C σ c9 k9) n_5 i_5 a3_5 = (lp (F_X0_findOwn_5 T C σ c9 k9) T 0 (-1)) → vo a3_5 → lv_has ls 5 [(4, .int (nI i_5)), (3, .int a3_5), (0, .ref (q 0)), (1, .int c9), (2, .int k9)] → W p l e rm_X0_findOwn s m args below meth c s.heap [] 0 0 Q (F0 m 5 ls []) := by
    intro n_5
    induction n_5 with
    | zero =>
      intro i_5 a3_5 ls hi_5 hres_5 hvo_a3_5 hl
      have hres : a3_5 = (lp (F_X0_findOwn_5 T C σ c9 k9) T 0 (-1)) := hres_5
      subst hres
      refine lv_iload hx hb dX0_findOwn_5 (lv_at hl 0 rfl) ?_
      refine lv_aload_n hx hb dX0_findOwn_7 rfl (lv_at hl 2 rfl) ?_
      refine gf_X0_85 hx hb hts hown hK hP dX0_findOwn_8 ?_
      refine lv_icmp_ge (tgt := 54) hx hb dX0_findOwn_11 (by decide) (fun _ => ?_) (fun h => absurd (lp_out hI.2.1 (by omega) hi_5) h)
      have hl := lv_sub (l' := [(3, .int (lp (F_X0_findOwn_5 T C σ c9 k9) T 0 (-1))), (0, .ref (q 0)), (1, .int c9), (2, .int k9)]) hl [1, 2, 3, 4] rfl
      refine lv_iload_n hx hb dX0_findOwn_54 rfl (lv_at hl 0 rfl) ?_
      exact rt_RI hQ hx hb hr hlocks ⟨rfl, ⟨Eq.subst (motive := fun z => vo z) (show (lp (F_X0_findOwn_5 T C σ c9 k9) T 0 (-1)) = (f_X0_findOwn T C σ c9 k9) from rfl) (show vo (lp (F_X0_findOwn_5 T C σ c9 k9) T 0 (-1)) from hvo_a3_5), trivial⟩⟩ dX0_findOwn_55
    | succ n_5 ih_5 =>
      intro i_5 a3_5 ls hi_5 hres_5 hvo_a3_5 hl
      refine lv_iload hx hb dX0_findOwn_5 (lv_at hl 0 rfl) ?_
      refine lv_aload_n hx hb dX0_findOwn_7 rfl (lv_at hl 2 rfl) ?_
      refine gf_X0_85 hx hb hts hown hK hP dX0_findOwn_8 ?_
      refine lv_icmp_ge (tgt := 54) hx hb dX0_findOwn_11 (by decide) (fun h => absurd h (lp_in hI.2.1 (by omega) hi_5)) (fun _ => ?_)
      refine lv_aload_n hx hb dX0_findOwn_14 rfl (lv_at hl 2 rfl) ?_
      refine lv_iload hx hb dX0_findOwn_15 (lv_at hl 0 rfl) ?_
      refine lv_iload_n hx hb dX0_findOwn_17 rfl (lv_at hl 3 rfl) ?_
      refine cl_RI (k_X0_isQueued l E q hq hT hC σ hI (nI i_5) c9 (vp_in_nI (by omega) (by decide))) gw_X0_130 hd_X0_isQueued ⟨rfl, rfl⟩ S0 hK hP (rest := []) rfl hl.1 (Nat.le_of_ble_eq_true rfl) ⟨(Nat.le_of_ble_eq_true rfl), (Nat.le_of_ble_eq_true rfl)⟩ ⟨Nat.zero_le _, Nat.zero_le _⟩ dX0_findOwn_18 (fun hex => ?_)
      refine cutG (fun ls H locs st => ∃ x3 : Int32, x3 = (if (f_X0_isQueued T C σ (nI i_5) c9) = 0 then a3_5 else (if (σ.1 2 (ix (nI i_5))) = k9 then (if (f_X0_comesBefore T C σ (nI i_5) a3_5) = 0 then a3_5 else (nI i_5)) else a3_5)) ∧ st = [] ∧ lv_has ls 5 [(4, .int (nI i_5)), (3, .int x3), (0, .ref (q 0)), (1, .int c9), (2, .int k9)] ∧ H = s.heap ∧ locs = []) 48 (fun ls H locs st hKp => ?_) (fun K21 => ?_)
      · revert hKp
        refine ex_eq (fun hKp => ?_)
        obtain ⟨rfl, hl, rfl, rfl⟩ := hKp
        refine lv_iinc (v := (nI (i_5 + 1))) (lv' := [(4, .int (nI (i_5 + 1))), (3, .int (if (f_X0_isQueued T C σ (nI i_5) c9) = 0 then a3_5 else (if (σ.1 2 (ix (nI i_5))) = k9 then (if (f_X0_comesBefore T C σ (nI i_5) a3_5) = 0 then a3_5 else (nI i_5)) else a3_5))), (0, .ref (q 0)), (1, .int c9), (2, .int k9)]) hx hb dX0_findOwn_48 hl (k := 0) rfl (nI_1 _) (by decide) rfl (fun ls hl => ?_)
        refine lv_goto (tgt := 5) hx hb dX0_findOwn_51 (by decide) ?_
        exact ih_5 (i_5 + 1) (if (f_X0_isQueued T C σ (nI i_5) c9) = 0 then a3_5 else (if (σ.1 2 (ix (nI i_5))) = k9 then (if (f_X0_comesBefore T C σ (nI i_5) a3_5) = 0 then a3_5 else (nI i_5)) else a3_5)) ls (by omega) hres_5 (Eq.subst (motive := fun z => vo z) (show (if (f_X0_isQueued T C σ (nI i_5) c9) = 0 then a3_5 else (if (σ.1 2 (ix (nI i_5))) = k9 then (if (f_X0_comesBefore T C σ (nI i_5) a3_5) = 0 then a3_5 else (nI i_5)) else a3_5)) = (if (f_X0_isQueued T C σ (nI i_5) c9) = 0 then a3_5 else (if (σ.1 2 (ix (nI i_5))) = k9 then (if (f_X0_comesBefore T C σ (nI i_5) a3_5) = 0 then a3_5 else (nI i_5)) else a3_5)) from rfl) (show vo (if (f_X0_isQueued T C σ (nI i_5) c9) = 0 then a3_5 else (if (σ.1 2 (ix (nI i_5))) = k9 then (if (f_X0_comesBefore T C σ (nI i_5) a3_5) = 0 then a3_5 else (nI i_5)) else a3_5)) from (vo.ite hvo_a3_5 (vo.ite (vo.ite hvo_a3_5 (vo_nI (by omega))) hvo_a3_5)))) (lv_sub (l' := [(4, .int (nI (i_5 + 1))), (3, .int (if (f_X0_isQueued T C σ (nI i_5) c9) = 0 then a3_5 else (if (σ.1 2 (ix (nI i_5))) = k9 then (if (f_X0_comesBefore T C σ (nI i_5) a3_5) = 0 then a3_5 else (nI i_5)) else a3_5))), (0, .ref (q 0)), (1, .int c9), (2, .int k9)]) hl [0, 1, 2, 3, 4] rfl)
      · refine lv_if_eq (tgt := 48) hx hb dX0_findOwn_21 (by decide) (fun h21 => ?_) (fun h21 => ?_)
        · skip
          exact K21 _ _ _ _ ⟨a3_5, (Eq.symm (if_pos h21)), rfl, lv_sub hl [0, 1, 2, 3, 4] rfl, rfl, rfl⟩
        · skip
          refine lv_aload_n hx hb dX0_findOwn_24 rfl (lv_at hl 2 rfl) ?_
          refine gf_X0_16 hx hb hts hown hK hP dX0_findOwn_25 ?_
          refine lv_iload hx hb dX0_findOwn_28 (lv_at hl 0 rfl) ?_
          refine ld_2 hx hb hK hP (vp_in_nI (by omega) (by decide)) dX0_findOwn_30 ?_
          refine lv_iload_n hx hb dX0_findOwn_31 rfl (lv_at hl 4 rfl) ?_
          refine lv_icmp_ne (tgt := 48) hx hb dX0_findOwn_32 (by decide) (fun h32 => ?_) (fun h32 => ?_)
          · skip
            exact K21 _ _ _ _ ⟨a3_5, (Eq.symm (Eq.trans (if_neg h21) (if_neg h32))), rfl, lv_sub hl [0, 1, 2, 3, 4] rfl, rfl, rfl⟩
          · skip
            refine lv_aload_n hx hb dX0_findOwn_35 rfl (lv_at hl 2 rfl) ?_
            refine lv_iload hx hb dX0_findOwn_36 (lv_at hl 0 rfl) ?_
            refine lv_iload_n hx hb dX0_findOwn_38 rfl (lv_at hl 1 rfl) ?_
            refine cl_RI (k_X0_comesBefore l E q hq hT hC σ hI (nI i_5) a3_5 (vp_in_nI (by omega) (by decide)) hvo_a3_5) gw_X0_167 hd_X0_comesBefore ⟨rfl, rfl⟩ S0 hK hP (rest := []) rfl hl.1 (Nat.le_of_ble_eq_true rfl) ⟨(Nat.le_of_ble_eq_true rfl), (Nat.le_of_ble_eq_true rfl)⟩ ⟨Nat.zero_le _, Nat.zero_le _⟩ dX0_findOwn_39 (fun hex => ?_)
            refine lv_if_eq (tgt := 48) hx hb dX0_findOwn_42 (by decide) (fun h42 => ?_) (fun h42 => ?_)
            · skip
              exact K21 _ _ _ _ ⟨a3_5, (Eq.symm (Eq.trans (Eq.trans (if_neg h21) (if_pos h32)) (if_pos h42))), rfl, lv_sub hl [0, 1, 2, 3, 4] rfl, rfl, rfl⟩
            · skip
              refine lv_iload hx hb dX0_findOwn_45 (lv_at hl 0 rfl) ?_
              refine lv_istore_n (lv' := [(3, .int (nI i_5)), (4, .int (nI i_5)), (0, .ref (q 0)), (1, .int c9), (2, .int k9)]) hx hb dX0_findOwn_47 rfl hl (by decide) rfl (fun ls hl => ?_)
              exact K21 _ _ _ _ ⟨(nI i_5), (Eq.symm (Eq.trans (Eq.trans (if_neg h21) (if_pos h32)) (if_neg h42))), rfl, lv_sub hl [1, 0, 2, 3, 4] rfl, rfl, rfl⟩
  exact L_5 T 0 (-1) ls (Nat.zero_add T) rfl vo_1 (lv_sub hl [0, 1, 2, 3, 4] rfl)
def f_X0_isLoot (T C : Nat) (σ : St) (t : Int32) (r9 : Int32) (k9 : Int32) : Int32 := (if (σ.1 3 (ix t)) = 0 then (if (σ.1 2 (ix t)) = k9 then (if (f_X0_isOnCore T C σ t r9) = 0 then 1 else 0) else 0) else 0)
def rm_X0_isLoot : Room := { frames := 2, cells := 0, slots := 0, locals := 42 }
set_option maxHeartbeats 1600000 in
set_option maxRecDepth 100000 in
theorem k_X0_isLoot (l : Launch) (E : Ev) (q : Nat → Nat) (hq : Dq q) {T C : Nat} (hT : T ≤ 16) (hC : 1 ≤ C ∧ C ≤ 4) (σ : St) (hI : Inv T C σ) (t : Int32) (r9 : Int32) (k9 : Int32) (hp0 : vp_in t 16) : RI l 0 E q σ yX0_isLoot cX0_isLoot 4 (some .boolean) rm_X0_isLoot [.int t, .int r9, .int k9] (f_X0_isLoot T C σ t r9 k9) True := by
  refine Met.ofB (by decide) (Nat.le_of_ble_eq_true rfl) (fun p e s m args below meth c ls Q B hQ hPK hl => ?_)
  obtain ⟨hx, hb, hml, hr, hlocks, hown, hts⟩ := B
  have S0 : Fx p m c cX0_isLoot 4 s args RX0 := ⟨hx, hb, hml, hown, hts⟩
  obtain ⟨hP, hK⟩ := hPK
  have hl : lv_has ls 4 [(0, .ref (q 0)), (1, .int t), (2, .int r9), (3, .int k9)] := hl
  have hI0 := hI
  refine lv_aload_n hx hb dX0_isLoot_0 rfl (lv_at hl 0 rfl) ?_
  refine gf_X0_19 hx hb hts hown hK hP dX0_isLoot_1 ?_
  refine lv_iload_n hx hb dX0_isLoot_4 rfl (lv_at hl 1 rfl) ?_
  refine ld_3 hx hb hK hP hp0 dX0_isLoot_5 ?_
  refine cutG (fun ls H locs st => ∃ y0 : Int32, y0 = (if (σ.1 3 (ix t)) = 0 then (if (σ.1 2 (ix t)) = k9 then (if (f_X0_isOnCore T C σ t r9) = 0 then 1 else 0) else 0) else 0) ∧ st = [.int y0] ∧ lv_has ls 4 [(0, .ref (q 0)), (1, .int t), (2, .int r9), (3, .int k9)] ∧ H = s.heap ∧ locs = []) 33 (fun ls H locs st hKp => ?_) (fun K6 => ?_)
  · revert hKp
    refine ex_eq (fun hKp => ?_)
    obtain ⟨rfl, hl, rfl, rfl⟩ := hKp
    exact rt_RZ hQ hx hb hr hlocks (nb_ite (nb_ite (nb_ite nb_1 nb_0) nb_0) nb_0) ⟨rfl, trivial⟩ dX0_isLoot_33
  · refine lv_if_ne (tgt := 32) hx hb dX0_isLoot_6 (by decide) (fun h6 => ?_) (fun h6 => ?_)
    · skip
      refine lv_iconst (v := 0) hx hb dX0_isLoot_32 (by decide) ?_
      exact K6 _ _ _ _ ⟨0, (Eq.symm (if_neg h6)), rfl, lv_sub hl [0, 1, 2, 3] rfl, rfl, rfl⟩
    · skip
      refine lv_aload_n hx hb dX0_isLoot_9 rfl (lv_at hl 0 rfl) ?_
      refine gf_X0_16 hx hb hts hown hK hP dX0_isLoot_10 ?_
      refine lv_iload_n hx hb dX0_isLoot_13 rfl (lv_at hl 1 rfl) ?_
      refine ld_2 hx hb hK hP hp0 dX0_isLoot_14 ?_
      refine lv_iload_n hx hb dX0_isLoot_15 rfl (lv_at hl 3 rfl) ?_
      refine lv_icmp_ne (tgt := 32) hx hb dX0_isLoot_16 (by decide) (fun h16 => ?_) (fun h16 => ?_)
      · skip
        refine lv_iconst (v := 0) hx hb dX0_isLoot_32 (by decide) ?_
        exact K6 _ _ _ _ ⟨0, (Eq.symm (Eq.trans (if_pos h6) (if_neg h16))), rfl, lv_sub hl [0, 1, 2, 3] rfl, rfl, rfl⟩
      · skip
        refine lv_aload_n hx hb dX0_isLoot_19 rfl (lv_at hl 0 rfl) ?_
        refine lv_iload_n hx hb dX0_isLoot_20 rfl (lv_at hl 1 rfl) ?_
        refine lv_iload_n hx hb dX0_isLoot_21 rfl (lv_at hl 2 rfl) ?_
        refine cl_RI (k_X0_isOnCore l E q hq hT hC σ hI t r9 hp0) gw_X0_185 hd_X0_isOnCore ⟨rfl, rfl⟩ S0 hK hP (rest := []) rfl hl.1 (Nat.le_of_ble_eq_true rfl) ⟨(Nat.le_of_ble_eq_true rfl), (Nat.le_of_ble_eq_true rfl)⟩ ⟨Nat.zero_le _, Nat.zero_le _⟩ dX0_isLoot_22 (fun hex => ?_)
        refine lv_if_ne (tgt := 32) hx hb dX0_isLoot_25 (by decide) (fun h25 => ?_) (fun h25 => ?_)
        · skip
          refine lv_iconst (v := 0) hx hb dX0_isLoot_32 (by decide) ?_
          exact K6 _ _ _ _ ⟨0, (Eq.symm (Eq.trans (Eq.trans (if_pos h6) (if_pos h16)) (if_neg h25))), rfl, lv_sub hl [0, 1, 2, 3] rfl, rfl, rfl⟩
        · skip
          refine lv_iconst (v := 1) hx hb dX0_isLoot_28 (by decide) ?_
          refine lv_goto (tgt := 33) hx hb dX0_isLoot_29 (by decide) ?_
          exact K6 _ _ _ _ ⟨1, (Eq.symm (Eq.trans (Eq.trans (if_pos h6) (if_pos h16)) (if_pos h25))), rfl, lv_sub hl [0, 1, 2, 3] rfl, rfl, rfl⟩
def F_X0_findLoot_5 (T : Nat) (C : Nat) (σ : St) (r9 : Int32) (k9 : Int32) : Nat → Int32 → Int32 := fun i_5 z => (if (f_X0_isLoot T C σ (nI i_5) r9 k9) = 0 then z else (if (f_X0_comesBefore T C σ (nI i_5) z) = 0 then z else (nI i_5)))
def f_X0_findLoot (T C : Nat) (σ : St) (r9 : Int32) (k9 : Int32) : Int32 := (lp (F_X0_findLoot_5 T C σ r9 k9) T 0 (-1))
def rm_X0_findLoot : Room := { frames := 3, cells := 0, slots := 0, locals := 65 }
set_option maxHeartbeats 1600000 in
set_option maxRecDepth 100000 in
theorem k_X0_findLoot (l : Launch) (E : Ev) (q : Nat → Nat) (hq : Dq q) {T C : Nat} (hT : T ≤ 16) (hC : 1 ≤ C ∧ C ≤ 4) (σ : St) (hI : Inv T C σ) (r9 : Int32) (k9 : Int32) : RI l 0 E q σ yX0_findLoot cX0_findLoot 5 (some .int) rm_X0_findLoot [.int r9, .int k9] (f_X0_findLoot T C σ r9 k9) (vo (f_X0_findLoot T C σ r9 k9) ∧ True) := by
  refine Met.ofB (by decide) (Nat.le_of_ble_eq_true rfl) (fun p e s m args below meth c ls Q B hQ hPK hl => ?_)
  obtain ⟨hx, hb, hml, hr, hlocks, hown, hts⟩ := B
  have S0 : Fx p m c cX0_findLoot 5 s args RX0 := ⟨hx, hb, hml, hown, hts⟩
  obtain ⟨hP, hK⟩ := hPK
  have hl : lv_has ls 5 [(0, .ref (q 0)), (1, .int r9), (2, .int k9)] := hl
  have hI0 := hI
  refine lv_iconst (v := -1) hx hb dX0_findLoot_0 (by decide) ?_
  refine lv_istore_n (lv' := [(3, .int (-1)), (0, .ref (q 0)), (1, .int r9), (2, .int k9)]) hx hb dX0_findLoot_1 rfl hl (by decide) rfl (fun ls hl => ?_)
  refine lv_iconst (v := 0) hx hb dX0_findLoot_2 (by decide) ?_
  refine lv_istore (lv' := [(4, .int 0), (3, .int (-1)), (0, .ref (q 0)), (1, .int r9), (2, .int k9)]) hx hb dX0_findLoot_3 hl (by decide) rfl (fun ls hl => ?_)
  have L_5 : ∀ (n_5 i_5 : Nat) (a3_5 : Int32) (ls : Array Slot), i_5 + n_5 = T → lp (F_X0_findLoot_5 T C σ r9 k9) n_5 i_5 a3_5 = (lp (F_X0_findLoot_5 T C σ r9 k9) T 0 (-1)) → vo a3_5 → lv_has ls 5 [(4, .int (nI i_5)), (3, .int a3_5), (0, .ref (q 0)), (1, .int r9), (2, .int k9)] → W p l e rm_X0_findLoot s m args below meth c s.heap [] 0 0 Q (F0 m 5 ls []) := by
    intro n_5
    induction n_5 with
    | zero =>
      intro i_5 a3_5 ls hi_5 hres_5 hvo_a3_5 hl
      have hres : a3_5 = (lp (F_X0_findLoot_5 T C σ r9 k9) T 0 (-1)) := hres_5
      subst hres
      refine lv_iload hx hb dX0_findLoot_5 (lv_at hl 0 rfl) ?_
      refine lv_aload_n hx hb dX0_findLoot_7 rfl (lv_at hl 2 rfl) ?_
      refine gf_X0_85 hx hb hts hown hK hP dX0_findLoot_8 ?_
      refine lv_icmp_ge (tgt := 44) hx hb dX0_findLoot_11 (by decide) (fun _ => ?_) (fun h => absurd (lp_out hI.2.1 (by omega) hi_5) h)
      have hl := lv_sub (l' := [(3, .int (lp (F_X0_findLoot_5 T C σ r9 k9) T 0 (-1))), (0, .ref (q 0)), (1, .int r9), (2, .int k9)]) hl [1, 2, 3, 4] rfl
      refine lv_iload_n hx hb dX0_findLoot_44 rfl (lv_at hl 0 rfl) ?_
      exact rt_RI hQ hx hb hr hlocks ⟨rfl, ⟨Eq.subst (motive := fun z => vo z) (show (lp (F_X0_findLoot_5 T C σ r9 k9) T 0 (-1)) = (f_X0_findLoot T C σ r9 k9) from rfl) (show vo (lp (F_X0_findLoot_5 T C σ r9 k9) T 0 (-1)) from hvo_a3_5), trivial⟩⟩ dX0_findLoot_45
    | succ n_5 ih_5 =>
      intro i_5 a3_5 ls hi_5 hres_5 hvo_a3_5 hl
      refine lv_iload hx hb dX0_findLoot_5 (lv_at hl 0 rfl) ?_
      refine lv_aload_n hx hb dX0_findLoot_7 rfl (lv_at hl 2 rfl) ?_
      refine gf_X0_85 hx hb hts hown hK hP dX0_findLoot_8 ?_
      refine lv_icmp_ge (tgt := 44) hx hb dX0_findLoot_11 (by decide) (fun h => absurd h (lp_in hI.2.1 (by omega) hi_5)) (fun _ => ?_)
      refine lv_aload_n hx hb dX0_findLoot_14 rfl (lv_at hl 2 rfl) ?_
      refine lv_iload hx hb dX0_findLoot_15 (lv_at hl 0 rfl) ?_
      refine lv_iload_n hx hb dX0_findLoot_17 rfl (lv_at hl 3 rfl) ?_
      refine lv_iload_n hx hb dX0_findLoot_18 rfl (lv_at hl 4 rfl) ?_
      refine cl_RI (k_X0_isLoot l E q hq hT hC σ hI (nI i_5) r9 k9 (vp_in_nI (by omega) (by decide))) gw_X0_194 hd_X0_isLoot ⟨rfl, rfl⟩ S0 hK hP (rest := []) rfl hl.1 (Nat.le_of_ble_eq_true rfl) ⟨(Nat.le_of_ble_eq_true rfl), (Nat.le_of_ble_eq_true rfl)⟩ ⟨Nat.zero_le _, Nat.zero_le _⟩ dX0_findLoot_19 (fun hex => ?_)
      refine cutG (fun ls H locs st => ∃ x3 : Int32, x3 = (if (f_X0_isLoot T C σ (nI i_5) r9 k9) = 0 then a3_5 else (if (f_X0_comesBefore T C σ (nI i_5) a3_5) = 0 then a3_5 else (nI i_5))) ∧ st = [] ∧ lv_has ls 5 [(4, .int (nI i_5)), (3, .int x3), (0, .ref (q 0)), (1, .int r9), (2, .int k9)] ∧ H = s.heap ∧ locs = []) 38 (fun ls H locs st hKp => ?_) (fun K22 => ?_)
      · revert hKp
        refine ex_eq (fun hKp => ?_)
        obtain ⟨rfl, hl, rfl, rfl⟩ := hKp
        refine lv_iinc (v := (nI (i_5 + 1))) (lv' := [(4, .int (nI (i_5 + 1))), (3, .int (if (f_X0_isLoot T C σ (nI i_5) r9 k9) = 0 then a3_5 else (if (f_X0_comesBefore T C σ (nI i_5) a3_5) = 0 then a3_5 else (nI i_5)))), (0, .ref (q 0)), (1, .int r9), (2, .int k9)]) hx hb dX0_findLoot_38 hl (k := 0) rfl (nI_1 _) (by decide) rfl (fun ls hl => ?_)
        refine lv_goto (tgt := 5) hx hb dX0_findLoot_41 (by decide) ?_
        exact ih_5 (i_5 + 1) (if (f_X0_isLoot T C σ (nI i_5) r9 k9) = 0 then a3_5 else (if (f_X0_comesBefore T C σ (nI i_5) a3_5) = 0 then a3_5 else (nI i_5))) ls (by omega) hres_5 (Eq.subst (motive := fun z => vo z) (show (if (f_X0_isLoot T C σ (nI i_5) r9 k9) = 0 then a3_5 else (if (f_X0_comesBefore T C σ (nI i_5) a3_5) = 0 then a3_5 else (nI i_5))) = (if (f_X0_isLoot T C σ (nI i_5) r9 k9) = 0 then a3_5 else (if (f_X0_comesBefore T C σ (nI i_5) a3_5) = 0 then a3_5 else (nI i_5))) from rfl) (show vo (if (f_X0_isLoot T C σ (nI i_5) r9 k9) = 0 then a3_5 else (if (f_X0_comesBefore T C σ (nI i_5) a3_5) = 0 then a3_5 else (nI i_5))) from (vo.ite hvo_a3_5 (vo.ite hvo_a3_5 (vo_nI (by omega)))))) (lv_sub (l' := [(4, .int (nI (i_5 + 1))), (3, .int (if (f_X0_isLoot T C σ (nI i_5) r9 k9) = 0 then a3_5 else (if (f_X0_comesBefore T C σ (nI i_5) a3_5) = 0 then a3_5 else (nI i_5)))), (0, .ref (q 0)), (1, .int r9), (2, .int k9)]) hl [0, 1, 2, 3, 4] rfl)
      · refine lv_if_eq (tgt := 38) hx hb dX0_findLoot_22 (by decide) (fun h22 => ?_) (fun h22 => ?_)
        · skip
          exact K22 _ _ _ _ ⟨a3_5, (Eq.symm (if_pos h22)), rfl, lv_sub hl [0, 1, 2, 3, 4] rfl, rfl, rfl⟩
        · skip
          refine lv_aload_n hx hb dX0_findLoot_25 rfl (lv_at hl 2 rfl) ?_
          refine lv_iload hx hb dX0_findLoot_26 (lv_at hl 0 rfl) ?_
          refine lv_iload_n hx hb dX0_findLoot_28 rfl (lv_at hl 1 rfl) ?_
          refine cl_RI (k_X0_comesBefore l E q hq hT hC σ hI (nI i_5) a3_5 (vp_in_nI (by omega) (by decide)) hvo_a3_5) gw_X0_167 hd_X0_comesBefore ⟨rfl, rfl⟩ S0 hK hP (rest := []) rfl hl.1 (Nat.le_of_ble_eq_true rfl) ⟨(Nat.le_of_ble_eq_true rfl), (Nat.le_of_ble_eq_true rfl)⟩ ⟨Nat.zero_le _, Nat.zero_le _⟩ dX0_findLoot_29 (fun hex => ?_)
          refine lv_if_eq (tgt := 38) hx hb dX0_findLoot_32 (by decide) (fun h32 => ?_) (fun h32 => ?_)
          · skip
            exact K22 _ _ _ _ ⟨a3_5, (Eq.symm (Eq.trans (if_neg h22) (if_pos h32))), rfl, lv_sub hl [0, 1, 2, 3, 4] rfl, rfl, rfl⟩
          · skip
            refine lv_iload hx hb dX0_findLoot_35 (lv_at hl 0 rfl) ?_
            refine lv_istore_n (lv' := [(3, .int (nI i_5)), (4, .int (nI i_5)), (0, .ref (q 0)), (1, .int r9), (2, .int k9)]) hx hb dX0_findLoot_37 rfl hl (by decide) rfl (fun ls hl => ?_)
            exact K22 _ _ _ _ ⟨(nI i_5), (Eq.symm (Eq.trans (if_neg h22) (if_neg h32))), rfl, lv_sub hl [1, 0, 2, 3, 4] rfl, rfl, rfl⟩
  exact L_5 T 0 (-1) ls (Nat.zero_add T) rfl vo_1 (lv_sub hl [0, 1, 2, 3, 4] rfl)
def F_X0_findLeastTime_4 (T : Nat) (C : Nat) (σ : St) (c9 : Int32) : Nat → Int32 → Int32 := fun i_4 z => (if (f_X0_isQueued T C σ (nI i_4) c9) = 0 then z else (if z = (-1) then (nI i_4) else (if 0 ≤ (lg_cmp (σ.2.1 4 (ix (nI i_4))) (σ.2.1 4 (ix z))) then z else (nI i_4))))
def f_X0_findLeastTime (T C : Nat) (σ : St) (c9 : Int32) : Int32 := (lp (F_X0_findLeastTime_4 T C σ c9) T 0 (-1))
def rm_X0_findLeastTime : Room := { frames := 2, cells := 0, slots := 0, locals := 43 }
set_option maxHeartbeats 1600000 in
set_option maxRecDepth 100000 in
theorem k_X0_findLeastTime (l : Launch) (E : Ev) (q : Nat → Nat) (hq : Dq q) {T C : Nat} (hT : T ≤ 16) (hC : 1 ≤ C ∧ C ≤ 4) (σ : St) (hI : Inv T C σ) (c9 : Int32) : RI l 0 E q σ yX0_findLeastTime cX0_findLeastTime 4 (some .int) rm_X0_findLeastTime [.int c9] (f_X0_findLeastTime T C σ c9) (vo (f_X0_findLeastTime T C σ c9) ∧ True) := by
  refine Met.ofB (by decide) (Nat.le_of_ble_eq_true rfl) (fun p e s m args below meth c ls Q B hQ hPK hl => ?_)
  obtain ⟨hx, hb, hml, hr, hlocks, hown, hts⟩ := B
  have S0 : Fx p m c cX0_findLeastTime 4 s args RX0 := ⟨hx, hb, hml, hown, hts⟩
  obtain ⟨hP, hK⟩ := hPK
  have hl : lv_has ls 4 [(0, .ref (q 0)), (1, .int c9)] := hl
  have hI0 := hI
  refine lv_iconst (v := -1) hx hb dX0_findLeastTime_0 (by decide) ?_
  refine lv_istore_n (lv' := [(2, .int (-1)), (0, .ref (q 0)), (1, .int c9)]) hx hb dX0_findLeastTime_1 rfl hl (by decide) rfl (fun ls hl => ?_)
  refine lv_iconst (v := 0) hx hb dX0_findLeastTime_2 (by decide) ?_
  refine lv_istore_n (lv' := [(3, .int 0), (2, .int (-1)), (0, .ref (q 0)), (1, .int c9)]) hx hb dX0_findLeastTime_3 rfl hl (by decide) rfl (fun ls hl => ?_)
  have L_4 : ∀ (n_4 i_4 : Nat) (a2_4 : Int32) (ls : Array Slot), i_4 + n_4 = T → lp (F_X0_findLeastTime_4 T C σ c9) n_4 i_4 a2_4 = (lp (F_X0_findLeastTime_4 T C σ c9) T 0 (-1)) → vo a2_4 → lv_has ls 4 [(3, .int (nI i_4)), (2, .int a2_4), (0, .ref (q 0)), (1, .int c9)] → W p l e rm_X0_findLeastTime s m args below meth c s.heap [] 0 0 Q (F0 m 4 ls []) := by
    intro n_4
    induction n_4 with
    | zero =>
      intro i_4 a2_4 ls hi_4 hres_4 hvo_a2_4 hl
      have hres : a2_4 = (lp (F_X0_findLeastTime_4 T C σ c9) T 0 (-1)) := hres_4
      subst hres
      refine lv_iload_n hx hb dX0_findLeastTime_4 rfl (lv_at hl 0 rfl) ?_
      refine lv_aload_n hx hb dX0_findLeastTime_5 rfl (lv_at hl 2 rfl) ?_
      refine gf_X0_85 hx hb hts hown hK hP dX0_findLeastTime_6 ?_
      refine lv_icmp_ge (tgt := 50) hx hb dX0_findLeastTime_9 (by decide) (fun _ => ?_) (fun h => absurd (lp_out hI.2.1 (by omega) hi_4) h)
      have hl := lv_sub (l' := [(2, .int (lp (F_X0_findLeastTime_4 T C σ c9) T 0 (-1))), (0, .ref (q 0)), (1, .int c9)]) hl [1, 2, 3] rfl
      refine lv_iload_n hx hb dX0_findLeastTime_50 rfl (lv_at hl 0 rfl) ?_
      exact rt_RI hQ hx hb hr hlocks ⟨rfl, ⟨Eq.subst (motive := fun z => vo z) (show (lp (F_X0_findLeastTime_4 T C σ c9) T 0 (-1)) = (f_X0_findLeastTime T C σ c9) from rfl) (show vo (lp (F_X0_findLeastTime_4 T C σ c9) T 0 (-1)) from hvo_a2_4), trivial⟩⟩ dX0_findLeastTime_51
    | succ n_4 ih_4 =>
      intro i_4 a2_4 ls hi_4 hres_4 hvo_a2_4 hl
      refine lv_iload_n hx hb dX0_findLeastTime_4 rfl (lv_at hl 0 rfl) ?_
      refine lv_aload_n hx hb dX0_findLeastTime_5 rfl (lv_at hl 2 rfl) ?_
      refine gf_X0_85 hx hb hts hown hK hP dX0_findLeastTime_6 ?_
      refine lv_icmp_ge (tgt := 50) hx hb dX0_findLeastTime_9 (by decide) (fun h => absurd h (lp_in hI.2.1 (by omega) hi_4)) (fun _ => ?_)
      refine lv_aload_n hx hb dX0_findLeastTime_12 rfl (lv_at hl 2 rfl) ?_
      refine lv_iload_n hx hb dX0_findLeastTime_13 rfl (lv_at hl 0 rfl) ?_
      refine lv_iload_n hx hb dX0_findLeastTime_14 rfl (lv_at hl 3 rfl) ?_
      refine cl_RI (k_X0_isQueued l E q hq hT hC σ hI (nI i_4) c9 (vp_in_nI (by omega) (by decide))) gw_X0_130 hd_X0_isQueued ⟨rfl, rfl⟩ S0 hK hP (rest := []) rfl hl.1 (Nat.le_of_ble_eq_true rfl) ⟨(Nat.le_of_ble_eq_true rfl), (Nat.le_of_ble_eq_true rfl)⟩ ⟨Nat.zero_le _, Nat.zero_le _⟩ dX0_findLeastTime_15 (fun hex => ?_)
      refine cutG (fun ls H locs st => ∃ x2 : Int32, x2 = (if (f_X0_isQueued T C σ (nI i_4) c9) = 0 then a2_4 else (if a2_4 = (-1) then (nI i_4) else (if 0 ≤ (lg_cmp (σ.2.1 4 (ix (nI i_4))) (σ.2.1 4 (ix a2_4))) then a2_4 else (nI i_4)))) ∧ st = [] ∧ lv_has ls 4 [(3, .int (nI i_4)), (2, .int x2), (0, .ref (q 0)), (1, .int c9)] ∧ H = s.heap ∧ locs = []) 44 (fun ls H locs st hKp => ?_) (fun K18 => ?_)
      · revert hKp
        refine ex_eq (fun hKp => ?_)
        obtain ⟨rfl, hl, rfl, rfl⟩ := hKp
        refine lv_iinc (v := (nI (i_4 + 1))) (lv' := [(3, .int (nI (i_4 + 1))), (2, .int (if (f_X0_isQueued T C σ (nI i_4) c9) = 0 then a2_4 else (if a2_4 = (-1) then (nI i_4) else (if 0 ≤ (lg_cmp (σ.2.1 4 (ix (nI i_4))) (σ.2.1 4 (ix a2_4))) then a2_4 else (nI i_4))))), (0, .ref (q 0)), (1, .int c9)]) hx hb dX0_findLeastTime_44 hl (k := 0) rfl (nI_1 _) (by decide) rfl (fun ls hl => ?_)
        refine lv_goto (tgt := 4) hx hb dX0_findLeastTime_47 (by decide) ?_
        exact ih_4 (i_4 + 1) (if (f_X0_isQueued T C σ (nI i_4) c9) = 0 then a2_4 else (if a2_4 = (-1) then (nI i_4) else (if 0 ≤ (lg_cmp (σ.2.1 4 (ix (nI i_4))) (σ.2.1 4 (ix a2_4))) then a2_4 else (nI i_4)))) ls (by omega) hres_4 (Eq.subst (motive := fun z => vo z) (show (if (f_X0_isQueued T C σ (nI i_4) c9) = 0 then a2_4 else (if a2_4 = (-1) then (nI i_4) else (if 0 ≤ (lg_cmp (σ.2.1 4 (ix (nI i_4))) (σ.2.1 4 (ix a2_4))) then a2_4 else (nI i_4)))) = (if (f_X0_isQueued T C σ (nI i_4) c9) = 0 then a2_4 else (if a2_4 = (-1) then (nI i_4) else (if 0 ≤ (lg_cmp (σ.2.1 4 (ix (nI i_4))) (σ.2.1 4 (ix a2_4))) then a2_4 else (nI i_4)))) from rfl) (show vo (if (f_X0_isQueued T C σ (nI i_4) c9) = 0 then a2_4 else (if a2_4 = (-1) then (nI i_4) else (if 0 ≤ (lg_cmp (σ.2.1 4 (ix (nI i_4))) (σ.2.1 4 (ix a2_4))) then a2_4 else (nI i_4)))) from (vo.ite hvo_a2_4 (vo.ite (vo_nI (by omega)) (vo.ite hvo_a2_4 (vo_nI (by omega))))))) (lv_sub (l' := [(3, .int (nI (i_4 + 1))), (2, .int (if (f_X0_isQueued T C σ (nI i_4) c9) = 0 then a2_4 else (if a2_4 = (-1) then (nI i_4) else (if 0 ≤ (lg_cmp (σ.2.1 4 (ix (nI i_4))) (σ.2.1 4 (ix a2_4))) then a2_4 else (nI i_4))))), (0, .ref (q 0)), (1, .int c9)]) hl [0, 1, 2, 3] rfl)
      · refine lv_if_eq (tgt := 44) hx hb dX0_findLeastTime_18 (by decide) (fun h18 => ?_) (fun h18 => ?_)
        · skip
          exact K18 _ _ _ _ ⟨a2_4, (Eq.symm (if_pos h18)), rfl, lv_sub hl [0, 1, 2, 3] rfl, rfl, rfl⟩
        · skip
          refine lv_iload_n hx hb dX0_findLeastTime_21 rfl (lv_at hl 1 rfl) ?_
          refine lv_iconst (v := -1) hx hb dX0_findLeastTime_22 (by decide) ?_
          refine lv_icmp_eq (tgt := 42) hx hb dX0_findLeastTime_23 (by decide) (fun h23 => ?_) (fun h23 => ?_)
          · skip
            refine lv_iload_n hx hb dX0_findLeastTime_42 rfl (lv_at hl 0 rfl) ?_
            refine lv_istore_n (lv' := [(2, .int (nI i_4)), (3, .int (nI i_4)), (0, .ref (q 0)), (1, .int c9)]) hx hb dX0_findLeastTime_43 rfl hl (by decide) rfl (fun ls hl => ?_)
            exact K18 _ _ _ _ ⟨(nI i_4), (Eq.symm (Eq.trans (if_neg h18) (if_pos h23))), rfl, lv_sub hl [1, 0, 2, 3] rfl, rfl, rfl⟩
          · skip
            refine lv_aload_n hx hb dX0_findLeastTime_26 rfl (lv_at hl 2 rfl) ?_
            refine gf_X0_22 hx hb hts hown hK hP dX0_findLeastTime_27 ?_
            refine lv_iload_n hx hb dX0_findLeastTime_30 rfl (lv_at hl 0 rfl) ?_
            refine ld_4 hx hb hK hP (vp_in_nI (by omega) (by decide)) dX0_findLeastTime_31 ?_
            refine lv_aload_n hx hb dX0_findLeastTime_32 rfl (lv_at hl 2 rfl) ?_
            refine gf_X0_22 hx hb hts hown hK hP dX0_findLeastTime_33 ?_
            refine lv_iload_n hx hb dX0_findLeastTime_36 rfl (lv_at hl 1 rfl) ?_
            refine ld_4 hx hb hK hP (vo.in hvo_a2_4 h23) dX0_findLeastTime_37 ?_
            refine W.lcmp hx hb dX0_findLeastTime_38 ?_
            refine lv_if_ge (tgt := 44) hx hb dX0_findLeastTime_39 (by decide) (fun h39 => ?_) (fun h39 => ?_)
            · skip
              exact K18 _ _ _ _ ⟨a2_4, (Eq.symm (Eq.trans (Eq.trans (if_neg h18) (if_neg h23)) (if_pos h39))), rfl, lv_sub hl [0, 1, 2, 3] rfl, rfl, rfl⟩
            · skip
              refine lv_iload_n hx hb dX0_findLeastTime_42 rfl (lv_at hl 0 rfl) ?_
              refine lv_istore_n (lv' := [(2, .int (nI i_4)), (3, .int (nI i_4)), (0, .ref (q 0)), (1, .int c9)]) hx hb dX0_findLeastTime_43 rfl hl (by decide) rfl (fun ls hl => ?_)
              exact K18 _ _ _ _ ⟨(nI i_4), (Eq.symm (Eq.trans (Eq.trans (if_neg h18) (if_neg h23)) (if_neg h39))), rfl, lv_sub hl [1, 0, 2, 3] rfl, rfl, rfl⟩
  exact L_4 T 0 (-1) ls (Nat.zero_add T) rfl vo_1 (lv_sub hl [0, 1, 2, 3] rfl)
def f_X0_costOfTick (w9 : Int32) : Int32 := (if 1 ≤ w9 then (5040 / w9) else 5040)
def rm_X0_costOfTick : Room := { frames := 0, cells := 0, slots := 0, locals := 0 }
set_option maxHeartbeats 1600000 in
set_option maxRecDepth 100000 in
theorem k_X0_costOfTick (l : Launch) (w9 : Int32) : NI l yX0_costOfTick cX0_costOfTick 1 (some .int) rm_X0_costOfTick [.int w9] (f_X0_costOfTick w9) := by
  refine Met.ofB (by decide) (Nat.le_of_ble_eq_true rfl) (fun p e s m args below meth c ls Q B hQ hPK hl => ?_)
  obtain ⟨hx, hb, hml, hr, hlocks, hown, hts⟩ := B
  have S0 : Fx p m c cX0_costOfTick 1 s args RX0 := ⟨hx, hb, hml, hown, hts⟩
  have hl : lv_has ls 1 [(0, .int w9)] := hl
  refine lv_iload_n hx hb dX0_costOfTick_0 rfl (lv_at hl 0 rfl) ?_
  refine lv_iconst (v := 1) hx hb dX0_costOfTick_1 (by decide) ?_
  refine cutG (fun ls H locs st => ∃ y0 : Int32, y0 = (if 1 ≤ w9 then (5040 / w9) else 5040) ∧ st = [.int y0] ∧ lv_has ls 1 [(0, .int w9)] ∧ H = s.heap ∧ locs = []) 16 (fun ls H locs st hKp => ?_) (fun K2 => ?_)
  · revert hKp
    refine ex_eq (fun hKp => ?_)
    obtain ⟨rfl, hl, rfl, rfl⟩ := hKp
    exact rt_NI hQ hx hb hr hlocks rfl dX0_costOfTick_16
  · refine lv_icmp_ge (tgt := 11) hx hb dX0_costOfTick_2 (by decide) (fun h2 => ?_) (fun h2 => ?_)
    · skip
      refine lv_sipush (v := 5040) hx hb dX0_costOfTick_11 (by decide) ?_
      refine lv_iload_n hx hb dX0_costOfTick_14 rfl (lv_at hl 0 rfl) ?_
      refine lv_idiv hx hb dX0_costOfTick_15 (by first | exact divne (by assumption) | exact divle (by assumption)) ?_
      exact K2 _ _ _ _ ⟨(5040 / w9), (Eq.symm (if_pos h2)), rfl, lv_sub hl [0] rfl, rfl, rfl⟩
    · skip
      refine lv_sipush (v := 5040) hx hb dX0_costOfTick_5 (by decide) ?_
      refine lv_goto (tgt := 16) hx hb dX0_costOfTick_8 (by decide) ?_
      exact K2 _ _ _ _ ⟨5040, (Eq.symm (if_neg h2)), rfl, lv_sub hl [0] rfl, rfl, rfl⟩
def f_X0_taskCount (T C : Nat) (σ : St) : Int32 := (σ.2.2 14)
def rm_X0_taskCount : Room := { frames := 0, cells := 0, slots := 0, locals := 0 }
set_option maxHeartbeats 1600000 in
set_option maxRecDepth 100000 in
theorem k_X0_taskCount (l : Launch) (E : Ev) (q : Nat → Nat) (hq : Dq q) {T C : Nat} (hT : T ≤ 16) (hC : 1 ≤ C ∧ C ≤ 4) (σ : St) (hI : Inv T C σ) : RI l 0 E q σ yX0_taskCount cX0_taskCount 1 (some .int) rm_X0_taskCount [] (f_X0_taskCount T C σ) True := by
  refine Met.ofB (by decide) (Nat.le_of_ble_eq_true rfl) (fun p e s m args below meth c ls Q B hQ hPK hl => ?_)
  obtain ⟨hx, hb, hml, hr, hlocks, hown, hts⟩ := B
  have S0 : Fx p m c cX0_taskCount 1 s args RX0 := ⟨hx, hb, hml, hown, hts⟩
  obtain ⟨hP, hK⟩ := hPK
  have hl : lv_has ls 1 [(0, .ref (q 0))] := hl
  have hI0 := hI
  refine lv_aload_n hx hb dX0_taskCount_0 rfl (lv_at hl 0 rfl) ?_
  refine gf_X0_85 hx hb hts hown hK hP dX0_taskCount_1 ?_
  exact rt_RI hQ hx hb hr hlocks ⟨rfl, trivial⟩ dX0_taskCount_4
def f_X0_stolenTasks (T C : Nat) (σ : St) : Int32 := (σ.2.2 15)
def rm_X0_stolenTasks : Room := { frames := 0, cells := 0, slots := 0, locals := 0 }
set_option maxHeartbeats 1600000 in
set_option maxRecDepth 100000 in
theorem k_X0_stolenTasks (l : Launch) (E : Ev) (q : Nat → Nat) (hq : Dq q) {T C : Nat} (hT : T ≤ 16) (hC : 1 ≤ C ∧ C ≤ 4) (σ : St) (hI : Inv T C σ) : RI l 0 E q σ yX0_stolenTasks cX0_stolenTasks 1 (some .int) rm_X0_stolenTasks [] (f_X0_stolenTasks T C σ) True := by
  refine Met.ofB (by decide) (Nat.le_of_ble_eq_true rfl) (fun p e s m args below meth c ls Q B hQ hPK hl => ?_)
  obtain ⟨hx, hb, hml, hr, hlocks, hown, hts⟩ := B
  have S0 : Fx p m c cX0_stolenTasks 1 s args RX0 := ⟨hx, hb, hml, hown, hts⟩
  obtain ⟨hP, hK⟩ := hPK
  have hl : lv_has ls 1 [(0, .ref (q 0))] := hl
  have hI0 := hI
  refine lv_aload_n hx hb dX0_stolenTasks_0 rfl (lv_at hl 0 rfl) ?_
  refine gf_X0_142 hx hb hts hown hK hP dX0_stolenTasks_1 ?_
  exact rt_RI hQ hx hb hr hlocks ⟨rfl, trivial⟩ dX0_stolenTasks_4
def g_X0_enterQueue (T C : Nat) (σ : St) (t : Int32) : St := (sI (sJ σ 4 (ix t) (if (σ.2.1 7 (ix (σ.1 0 (ix t)))) < (σ.2.1 4 (ix t)) then (σ.2.1 4 (ix t)) else (σ.2.1 7 (ix (σ.1 0 (ix t)))))) 3 (ix t) 0)
def rm_X0_enterQueue : Room := { frames := 1, cells := 0, slots := 0, locals := 23 }
set_option maxHeartbeats 1600000 in
set_option maxRecDepth 100000 in
theorem k_X0_enterQueue (l : Launch) (E : Ev) (q : Nat → Nat) (hq : Dq q) {T C : Nat} (hT : T ≤ 16) (hC : 1 ≤ C ∧ C ≤ 4) (σ : St) (hI : Inv T C σ) (t : Int32) (hp0 : vp_in t 16) : WV l 0 E q σ yX0_enterQueue cX0_enterQueue 2 none rm_X0_enterQueue [.int t] (g_X0_enterQueue T C σ t) (Inv T C (g_X0_enterQueue T C σ t) ∧ True) := by
  refine Met.ofB (by decide) (Nat.le_of_ble_eq_true rfl) (fun p e s m args below meth c ls Q B hQ hPK hl => ?_)
  obtain ⟨hx, hb, hml, hr, hlocks, hown, hts⟩ := B
  have S0 : Fx p m c cX0_enterQueue 2 s args RX0 := ⟨hx, hb, hml, hown, hts⟩
  obtain ⟨hP, hK⟩ := hPK
  suffices KH : ∀ (H : Heap) (locs : List Loc), PP 0 E q σ H → va_S (Aq q) s.heap H locs → W p l e rm_X0_enterQueue s m args below meth c H locs 0 0 Q (F0 m 0 ls []) from KH s.heap [] hP va_S.rf
  intro H locs hP hS
  have hl : lv_has ls 2 [(0, .ref (q 0)), (1, .int t)] := hl
  have hI0 := hI
  refine lv_aload_n hx hb dX0_enterQueue_0 rfl (lv_at hl 0 rfl) ?_
  refine gf_X0_22 hx hb hts hown hK hP dX0_enterQueue_1 ?_
  refine lv_iload_n hx hb dX0_enterQueue_4 rfl (lv_at hl 1 rfl) ?_
  refine lv_aload_n hx hb dX0_enterQueue_5 rfl (lv_at hl 0 rfl) ?_
  refine gf_X0_22 hx hb hts hown hK hP dX0_enterQueue_6 ?_
  refine lv_iload_n hx hb dX0_enterQueue_9 rfl (lv_at hl 1 rfl) ?_
  refine ld_4 hx hb hK hP hp0 dX0_enterQueue_10 ?_
  refine lv_aload_n hx hb dX0_enterQueue_11 rfl (lv_at hl 0 rfl) ?_
  refine gf_X0_32 hx hb hts hown hK hP dX0_enterQueue_12 ?_
  refine lv_aload_n hx hb dX0_enterQueue_15 rfl (lv_at hl 0 rfl) ?_
  refine gf_X0_9 hx hb hts hown hK hP dX0_enterQueue_16 ?_
  refine lv_iload_n hx hb dX0_enterQueue_19 rfl (lv_at hl 1 rfl) ?_
  refine ld_0 hx hb hK hP hp0 dX0_enterQueue_20 ?_
  refine ld_7 hx hb hK hP (hI.1 _) dX0_enterQueue_21 ?_
  refine mmx hx hb (hml.trans hl.1.symm) hown hts (Nat.le_of_ble_eq_true rfl) (Nat.le_of_ble_eq_true rfl) ⟨Nat.zero_le _, Nat.zero_le _⟩ dX0_enterQueue_22 ?_
  refine st_4 hx hb hK hq hP hS hp0 dX0_enterQueue_25 (fun H locs hP hS => ?_)
  have hI : Inv T C (sJ σ 4 (ix t) (if (σ.2.1 7 (ix (σ.1 0 (ix t)))) < (σ.2.1 4 (ix t)) then (σ.2.1 4 (ix t)) else (σ.2.1 7 (ix (σ.1 0 (ix t)))))) := inv_sJ hI
  refine lv_aload_n hx hb dX0_enterQueue_26 rfl (lv_at hl 0 rfl) ?_
  refine gf_X0_19 hx hb hts hown hK hP dX0_enterQueue_27 ?_
  refine lv_iload_n hx hb dX0_enterQueue_30 rfl (lv_at hl 1 rfl) ?_
  refine lv_iconst (v := 0) hx hb dX0_enterQueue_31 (by decide) ?_
  refine st_3 hx hb hK hq hP hS hp0 dX0_enterQueue_32 (fun H locs hP hS => ?_)
  have hI : Inv T C (sI (sJ σ 4 (ix t) (if (σ.2.1 7 (ix (σ.1 0 (ix t)))) < (σ.2.1 4 (ix t)) then (σ.2.1 4 (ix t)) else (σ.2.1 7 (ix (σ.1 0 (ix t)))))) 3 (ix t) 0) := inv_sI (by decide) hI
  exact rt_WV hQ hx hb hr hlocks (Eq.subst (motive := fun z => PP 0 E q z H) (show (sI (sJ σ 4 (ix t) (if (σ.2.1 7 (ix (σ.1 0 (ix t)))) < (σ.2.1 4 (ix t)) then (σ.2.1 4 (ix t)) else (σ.2.1 7 (ix (σ.1 0 (ix t)))))) 3 (ix t) 0) = (g_X0_enterQueue T C σ t) from rfl) hP) hS ⟨Eq.subst (motive := fun z => Inv T C z) (show (sI (sJ σ 4 (ix t) (if (σ.2.1 7 (ix (σ.1 0 (ix t)))) < (σ.2.1 4 (ix t)) then (σ.2.1 4 (ix t)) else (σ.2.1 7 (ix (σ.1 0 (ix t)))))) 3 (ix t) 0) = (g_X0_enterQueue T C σ t) from rfl) hI, trivial⟩ dX0_enterQueue_33
def f_X0_stopTask (T C : Nat) (σ : St) (t : Int32) (z9 : Int32) : Int32 := (σ.1 3 (ix t))
def g_X0_stopTask (T C : Nat) (σ : St) (t : Int32) (z9 : Int32) : St := (sI (if (σ.1 3 (ix t)) = 1 then (sI σ 8 (ix (σ.1 0 (ix t))) (-1)) else σ) 3 (ix t) z9)
def rm_X0_stopTask : Room := { frames := 0, cells := 0, slots := 0, locals := 0 }
set_option maxHeartbeats 1600000 in
set_option maxRecDepth 100000 in
theorem k_X0_stopTask (l : Launch) (E : Ev) (q : Nat → Nat) (hq : Dq q) {T C : Nat} (hT : T ≤ 16) (hC : 1 ≤ C ∧ C ≤ 4) (σ : St) (hI : Inv T C σ) (t : Int32) (z9 : Int32) (hp0 : vp_in t 16) : WI l 0 E q σ yX0_stopTask cX0_stopTask 4 (some .int) rm_X0_stopTask [.int t, .int z9] (f_X0_stopTask T C σ t z9) (g_X0_stopTask T C σ t z9) (Inv T C (g_X0_stopTask T C σ t z9) ∧ True) := by
  refine Met.ofB (by decide) (Nat.le_of_ble_eq_true rfl) (fun p e s m args below meth c ls Q B hQ hPK hl => ?_)
  obtain ⟨hx, hb, hml, hr, hlocks, hown, hts⟩ := B
  have S0 : Fx p m c cX0_stopTask 4 s args RX0 := ⟨hx, hb, hml, hown, hts⟩
  obtain ⟨hP, hK⟩ := hPK
  suffices KH : ∀ (H : Heap) (locs : List Loc), PP 0 E q σ H → va_S (Aq q) s.heap H locs → W p l e rm_X0_stopTask s m args below meth c H locs 0 0 Q (F0 m 0 ls []) from KH s.heap [] hP va_S.rf
  intro H locs hP hS
  have hl : lv_has ls 4 [(0, .ref (q 0)), (1, .int t), (2, .int z9)] := hl
  have hI0 := hI
  refine lv_aload_n hx hb dX0_stopTask_0 rfl (lv_at hl 0 rfl) ?_
  refine gf_X0_19 hx hb hts hown hK hP dX0_stopTask_1 ?_
  refine lv_iload_n hx hb dX0_stopTask_4 rfl (lv_at hl 1 rfl) ?_
  refine ld_3 hx hb hK hP hp0 dX0_stopTask_5 ?_
  refine lv_istore_n (lv' := [(3, .int (σ.1 3 (ix t))), (0, .ref (q 0)), (1, .int t), (2, .int z9)]) hx hb dX0_stopTask_6 rfl hl (by decide) rfl (fun ls hl => ?_)
  refine lv_iload_n hx hb dX0_stopTask_7 rfl (lv_at hl 0 rfl) ?_
  refine lv_iconst (v := 1) hx hb dX0_stopTask_8 (by decide) ?_
  refine cutG (fun ls H locs st => ∃ σ9 : St, σ9 = (if (σ.1 3 (ix t)) = 1 then (sI σ 8 (ix (σ.1 0 (ix t))) (-1)) else σ) ∧ st = [] ∧ lv_has ls 4 [(3, .int (σ.1 3 (ix t))), (0, .ref (q 0)), (1, .int t), (2, .int z9)] ∧ PP 0 E q σ9 H ∧ va_S (Aq q) s.heap H locs ∧ Inv T C σ9) 24 (fun ls H locs st hKp => ?_) (fun K9 => ?_)
  · revert hKp
    refine ex_eq (fun hKp => ?_)
    obtain ⟨rfl, hl, hP, hS, hI⟩ := hKp
    refine lv_aload_n hx hb dX0_stopTask_24 rfl (lv_at hl 1 rfl) ?_
    refine gf_X0_19 hx hb hts hown hK hP dX0_stopTask_25 ?_
    refine lv_iload_n hx hb dX0_stopTask_28 rfl (lv_at hl 2 rfl) ?_
    refine lv_iload_n hx hb dX0_stopTask_29 rfl (lv_at hl 3 rfl) ?_
    refine st_3 hx hb hK hq hP hS hp0 dX0_stopTask_30 (fun H locs hP hS => ?_)
    have hI : Inv T C (sI (if (σ.1 3 (ix t)) = 1 then (sI σ 8 (ix (σ.1 0 (ix t))) (-1)) else σ) 3 (ix t) z9) := inv_sI (by decide) hI
    refine lv_iload_n hx hb dX0_stopTask_31 rfl (lv_at hl 0 rfl) ?_
    exact rt_WI hQ hx hb hr hlocks (Eq.subst (motive := fun z => PP 0 E q z H) (show (sI (if (σ.1 3 (ix t)) = 1 then (sI σ 8 (ix (σ.1 0 (ix t))) (-1)) else σ) 3 (ix t) z9) = (g_X0_stopTask T C σ t z9) from rfl) hP) hS ⟨rfl, ⟨Eq.subst (motive := fun z => Inv T C z) (show (sI (if (σ.1 3 (ix t)) = 1 then (sI σ 8 (ix (σ.1 0 (ix t))) (-1)) else σ) 3 (ix t) z9) = (g_X0_stopTask T C σ t z9) from rfl) hI, trivial⟩⟩ dX0_stopTask_32
  · refine lv_icmp_ne (tgt := 24) hx hb dX0_stopTask_9 (by decide) (fun h9 => ?_) (fun h9 => ?_)
    · skip
      exact K9 _ _ _ _ ⟨σ, (Eq.symm (if_neg h9)), rfl, lv_sub hl [0, 1, 2, 3] rfl, hP, hS, hI⟩
    · skip
      refine lv_aload_n hx hb dX0_stopTask_12 rfl (lv_at hl 1 rfl) ?_
      refine gf_X0_35 hx hb hts hown hK hP dX0_stopTask_13 ?_
      refine lv_aload_n hx hb dX0_stopTask_16 rfl (lv_at hl 1 rfl) ?_
      refine gf_X0_9 hx hb hts hown hK hP dX0_stopTask_17 ?_
      refine lv_iload_n hx hb dX0_stopTask_20 rfl (lv_at hl 2 rfl) ?_
      refine ld_0 hx hb hK hP hp0 dX0_stopTask_21 ?_
      refine lv_iconst (v := -1) hx hb dX0_stopTask_22 (by decide) ?_
      refine st_8 hx hb hK hq hP hS (hI.1 _) dX0_stopTask_23 (fun H locs hP hS => ?_)
      have hI : Inv T C (sI σ 8 (ix (σ.1 0 (ix t))) (-1)) := inv_sI (by decide) hI
      exact K9 _ _ _ _ ⟨(sI σ 8 (ix (σ.1 0 (ix t))) (-1)), (Eq.symm (if_pos h9)), rfl, lv_sub hl [0, 1, 2, 3] rfl, hP, hS, hI⟩
def g_X0_moveRunnable (T C : Nat) (σ : St) (t : Int32) (c9 : Int32) : St := (sI (sJ σ 4 (ix t) ((f_X0_relativeTime T C σ t) + (σ.2.1 7 (ix c9)))) 0 (ix t) c9)
def rm_X0_moveRunnable : Room := { frames := 1, cells := 0, slots := 0, locals := 21 }
set_option maxHeartbeats 1600000 in
set_option maxRecDepth 100000 in
theorem k_X0_moveRunnable (l : Launch) (E : Ev) (q : Nat → Nat) (hq : Dq q) {T C : Nat} (hT : T ≤ 16) (hC : 1 ≤ C ∧ C ≤ 4) (σ : St) (hI : Inv T C σ) (t : Int32) (c9 : Int32) (hp0 : vp_in t 16) (hp1 : vp_in c9 8) : WV l 0 E q σ yX0_moveRunnable cX0_moveRunnable 3 none rm_X0_moveRunnable [.int t, .int c9] (g_X0_moveRunnable T C σ t c9) (Inv T C (g_X0_moveRunnable T C σ t c9) ∧ True) := by
  refine Met.ofB (by decide) (Nat.le_of_ble_eq_true rfl) (fun p e s m args below meth c ls Q B hQ hPK hl => ?_)
  obtain ⟨hx, hb, hml, hr, hlocks, hown, hts⟩ := B
  have S0 : Fx p m c cX0_moveRunnable 3 s args RX0 := ⟨hx, hb, hml, hown, hts⟩
  obtain ⟨hP, hK⟩ := hPK
  suffices KH : ∀ (H : Heap) (locs : List Loc), PP 0 E q σ H → va_S (Aq q) s.heap H locs → W p l e rm_X0_moveRunnable s m args below meth c H locs 0 0 Q (F0 m 0 ls []) from KH s.heap [] hP va_S.rf
  intro H locs hP hS
  have hl : lv_has ls 3 [(0, .ref (q 0)), (1, .int t), (2, .int c9)] := hl
  have hI0 := hI
  refine lv_aload_n hx hb dX0_moveRunnable_0 rfl (lv_at hl 0 rfl) ?_
  refine gf_X0_22 hx hb hts hown hK hP dX0_moveRunnable_1 ?_
  refine lv_iload_n hx hb dX0_moveRunnable_4 rfl (lv_at hl 1 rfl) ?_
  refine lv_aload_n hx hb dX0_moveRunnable_5 rfl (lv_at hl 0 rfl) ?_
  refine lv_iload_n hx hb dX0_moveRunnable_6 rfl (lv_at hl 1 rfl) ?_
  refine cl_RJ (k_X0_relativeTime l E q hq hT hC σ hI t hp0) gw_X0_163 hd_X0_relativeTime ⟨rfl, rfl⟩ S0 hK hP (rest := [.int t, .ref (q 5)]) rfl hl.1 (Nat.le_of_ble_eq_true rfl) ⟨(Nat.le_of_ble_eq_true rfl), (Nat.le_of_ble_eq_true rfl)⟩ ⟨Nat.zero_le _, Nat.zero_le _⟩ dX0_moveRunnable_7 (fun hex => ?_)
  refine lv_aload_n hx hb dX0_moveRunnable_10 rfl (lv_at hl 0 rfl) ?_
  refine gf_X0_32 hx hb hts hown hK hP dX0_moveRunnable_11 ?_
  refine lv_iload_n hx hb dX0_moveRunnable_14 rfl (lv_at hl 2 rfl) ?_
  refine ld_7 hx hb hK hP hp1 dX0_moveRunnable_15 ?_
  refine lv_ladd hx hb dX0_moveRunnable_16 ?_
  refine st_4 hx hb hK hq hP hS hp0 dX0_moveRunnable_17 (fun H locs hP hS => ?_)
  have hI : Inv T C (sJ σ 4 (ix t) ((f_X0_relativeTime T C σ t) + (σ.2.1 7 (ix c9)))) := inv_sJ hI
  refine lv_aload_n hx hb dX0_moveRunnable_18 rfl (lv_at hl 0 rfl) ?_
  refine gf_X0_9 hx hb hts hown hK hP dX0_moveRunnable_19 ?_
  refine lv_iload_n hx hb dX0_moveRunnable_22 rfl (lv_at hl 1 rfl) ?_
  refine lv_iload_n hx hb dX0_moveRunnable_23 rfl (lv_at hl 2 rfl) ?_
  refine st_0 hx hb hK hq hP hS hp0 dX0_moveRunnable_24 (fun H locs hP hS => ?_)
  have hI : Inv T C (sI (sJ σ 4 (ix t) ((f_X0_relativeTime T C σ t) + (σ.2.1 7 (ix c9)))) 0 (ix t) c9) := inv_cpu hp1 hI
  exact rt_WV hQ hx hb hr hlocks (Eq.subst (motive := fun z => PP 0 E q z H) (show (sI (sJ σ 4 (ix t) ((f_X0_relativeTime T C σ t) + (σ.2.1 7 (ix c9)))) 0 (ix t) c9) = (g_X0_moveRunnable T C σ t c9) from rfl) hP) hS ⟨Eq.subst (motive := fun z => Inv T C z) (show (sI (sJ σ 4 (ix t) ((f_X0_relativeTime T C σ t) + (σ.2.1 7 (ix c9)))) 0 (ix t) c9) = (g_X0_moveRunnable T C σ t c9) from rfl) hI, trivial⟩ dX0_moveRunnable_25
def F_X0_startAnew_22 : Nat → St → St := fun i_22 z => (sI (sI (sI (sI (sJ z 7 (ix (nI i_22)) 0) 8 (ix (nI i_22)) (-1)) 9 (ix (nI i_22)) (vp_nar .boolean 0)) 10 (ix (nI i_22)) 0) 11 (ix (nI i_22)) 0)
def F_X0_startAnew_71 : Nat → St → St := fun i_71 z => (sI z 12 (ix (nI i_71)) (-1))
def g_X0_startAnew (T C : Nat) (σ : St) (n9 : Int32) : St := (lp F_X0_startAnew_71 4 0 (lp F_X0_startAnew_22 8 0 (sS (sS (sS (sS σ 13 n9) 14 0) 15 0) 16 0)))
def rm_X0_startAnew : Room := { frames := 0, cells := 0, slots := 0, locals := 0 }
set_option maxHeartbeats 1600000 in
set_option maxRecDepth 100000 in
theorem k_X0_startAnew (l : Launch) (E : Ev) (q : Nat → Nat) (hq : Dq q) {T C : Nat} (hT : T ≤ 16) (hC : 1 ≤ C ∧ C ≤ 4) (σ : St) (n9 : Int32) : WV l 0 E q σ yX0_startAnew cX0_startAnew 3 none rm_X0_startAnew [.int n9] (g_X0_startAnew T C σ n9) True := by
  refine Met.ofB (by decide) (Nat.le_of_ble_eq_true rfl) (fun p e s m args below meth c ls Q B hQ hPK hl => ?_)
  obtain ⟨hx, hb, hml, hr, hlocks, hown, hts⟩ := B
  have S0 : Fx p m c cX0_startAnew 3 s args RX0 := ⟨hx, hb, hml, hown, hts⟩
  obtain ⟨hP, hK⟩ := hPK
  suffices KH : ∀ (H : Heap) (locs : List Loc), PP 0 E q σ H → va_S (Aq q) s.heap H locs → W p l e rm_X0_startAnew s m args below meth c H locs 0 0 Q (F0 m 0 ls []) from KH s.heap [] hP va_S.rf
  intro H locs hP hS
  have hl : lv_has ls 3 [(0, .ref (q 0)), (1, .int n9)] := hl
  refine lv_aload_n hx hb dX0_startAnew_0 rfl (lv_at hl 0 rfl) ?_
  refine lv_iload_n hx hb dX0_startAnew_1 rfl (lv_at hl 1 rfl) ?_
  refine pf_X0_62 hx hb hts hown hK hq hP hS dX0_startAnew_2 (fun H locs hP hS => ?_)
  refine lv_aload_n hx hb dX0_startAnew_5 rfl (lv_at hl 0 rfl) ?_
  refine lv_iconst (v := 0) hx hb dX0_startAnew_6 (by decide) ?_
  refine pf_X0_85 hx hb hts hown hK hq hP hS dX0_startAnew_7 (fun H locs hP hS => ?_)
  refine lv_aload_n hx hb dX0_startAnew_10 rfl (lv_at hl 0 rfl) ?_
  refine lv_iconst (v := 0) hx hb dX0_startAnew_11 (by decide) ?_
  refine pf_X0_142 hx hb hts hown hK hq hP hS dX0_startAnew_12 (fun H locs hP hS => ?_)
  refine lv_aload_n hx hb dX0_startAnew_15 rfl (lv_at hl 0 rfl) ?_
  refine lv_iconst (v := 0) hx hb dX0_startAnew_16 (by decide) ?_
  refine pf_X0_66 hx hb hts hown hK hq hP hS (nbf (by first | assumption | decide)) dX0_startAnew_17 (fun H locs hP hS => ?_)
  refine lv_iconst (v := 0) hx hb dX0_startAnew_20 (by decide) ?_
  refine lv_istore_n (lv' := [(2, .int 0), (0, .ref (q 0)), (1, .int n9)]) hx hb dX0_startAnew_21 rfl hl (by decide) rfl (fun ls hl => ?_)
  have L_22 : ∀ (n_22 i_22 : Nat) (τ_22 : St) (ls : Array Slot) (H : Heap) (locs : List Loc), i_22 + n_22 = 8 → lp F_X0_startAnew_22 n_22 i_22 τ_22 = (lp F_X0_startAnew_22 8 0 (sS (sS (sS (sS σ 13 n9) 14 0) 15 0) 16 0)) → lv_has ls 3 [(2, .int (nI i_22)), (0, .ref (q 0)), (1, .int n9)] → PP 0 E q τ_22 H → va_S (Aq q) s.heap H locs → W p l e rm_X0_startAnew s m args below meth c H locs 0 0 Q (F0 m 22 ls []) := by
    intro n_22
    induction n_22 with
    | zero =>
      intro i_22 τ_22 ls H locs hi_22 hres_22 hl hP hS
      have hres : τ_22 = (lp F_X0_startAnew_22 8 0 (sS (sS (sS (sS σ 13 n9) 14 0) 15 0) 16 0)) := hres_22
      subst hres
      refine lv_iload_n hx hb dX0_startAnew_22 rfl (lv_at hl 0 rfl) ?_
      refine lv_bipush (v := 8) hx hb dX0_startAnew_23 (by decide) ?_
      refine lv_icmp_ge (tgt := 69) hx hb dX0_startAnew_25 (by decide) (fun _ => ?_) (fun h => absurd (lp_out (show (8 : Int32) = nI 8 from rfl) (by omega) hi_22) h)
      have hl := lv_sub (l' := [(0, .ref (q 0)), (1, .int n9)]) hl [1, 2] rfl
      refine lv_iconst (v := 0) hx hb dX0_startAnew_69 (by decide) ?_
      refine lv_istore_n (lv' := [(2, .int 0), (0, .ref (q 0)), (1, .int n9)]) hx hb dX0_startAnew_70 rfl hl (by decide) rfl (fun ls hl => ?_)
      have L_71 : ∀ (n_71 i_71 : Nat) (τ_71 : St) (ls : Array Slot) (H : Heap) (locs : List Loc), i_71 + n_71 = 4 → lp F_X0_startAnew_71 n_71 i_71 τ_71 = (lp F_X0_startAnew_71 4 0 (lp F_X0_startAnew_22 8 0 (sS (sS (sS (sS σ 13 n9) 14 0) 15 0) 16 0))) → lv_has ls 3 [(2, .int (nI i_71)), (0, .ref (q 0)), (1, .int n9)] → PP 0 E q τ_71 H → va_S (Aq q) s.heap H locs → W p l e rm_X0_startAnew s m args below meth c H locs 0 0 Q (F0 m 71 ls []) := by
        intro n_71
        induction n_71 with
        | zero =>
          intro i_71 τ_71 ls H locs hi_71 hres_71 hl hP hS
          have hres : τ_71 = (lp F_X0_startAnew_71 4 0 (lp F_X0_startAnew_22 8 0 (sS (sS (sS (sS σ 13 n9) 14 0) 15 0) 16 0))) := hres_71
          subst hres
          refine lv_iload_n hx hb dX0_startAnew_71 rfl (lv_at hl 0 rfl) ?_
          refine lv_iconst (v := 4) hx hb dX0_startAnew_72 (by decide) ?_
          refine lv_icmp_ge (tgt := 89) hx hb dX0_startAnew_73 (by decide) (fun _ => ?_) (fun h => absurd (lp_out (show (4 : Int32) = nI 4 from rfl) (by omega) hi_71) h)
          have hl := lv_sub (l' := [(0, .ref (q 0)), (1, .int n9)]) hl [1, 2] rfl
          exact rt_WV hQ hx hb hr hlocks (Eq.subst (motive := fun z => PP 0 E q z H) (show (lp F_X0_startAnew_71 4 0 (lp F_X0_startAnew_22 8 0 (sS (sS (sS (sS σ 13 n9) 14 0) 15 0) 16 0))) = (g_X0_startAnew T C σ n9) from rfl) hP) hS trivial dX0_startAnew_89
        | succ n_71 ih_71 =>
          intro i_71 τ_71 ls H locs hi_71 hres_71 hl hP hS
          refine lv_iload_n hx hb dX0_startAnew_71 rfl (lv_at hl 0 rfl) ?_
          refine lv_iconst (v := 4) hx hb dX0_startAnew_72 (by decide) ?_
          refine lv_icmp_ge (tgt := 89) hx hb dX0_startAnew_73 (by decide) (fun h => absurd h (lp_in (show (4 : Int32) = nI 4 from rfl) (by omega) hi_71)) (fun _ => ?_)
          refine lv_aload_n hx hb dX0_startAnew_76 rfl (lv_at hl 1 rfl) ?_
          refine gf_X0_48 hx hb hts hown hK hP dX0_startAnew_77 ?_
          refine lv_iload_n hx hb dX0_startAnew_80 rfl (lv_at hl 0 rfl) ?_
          refine lv_iconst (v := -1) hx hb dX0_startAnew_81 (by decide) ?_
          refine st_12 hx hb hK hq hP hS (vp_in_nI (by omega) (by decide)) dX0_startAnew_82 (fun H locs hP hS => ?_)
          refine lv_iinc (v := (nI (i_71 + 1))) (lv' := [(2, .int (nI (i_71 + 1))), (0, .ref (q 0)), (1, .int n9)]) hx hb dX0_startAnew_83 hl (k := 0) rfl (nI_1 _) (by decide) rfl (fun ls hl => ?_)
          refine lv_goto (tgt := 71) hx hb dX0_startAnew_86 (by decide) ?_
          exact ih_71 (i_71 + 1) (sI τ_71 12 (ix (nI i_71)) (-1)) ls H locs (by omega) hres_71 (lv_sub (l' := [(2, .int (nI (i_71 + 1))), (0, .ref (q 0)), (1, .int n9)]) hl [0, 1, 2] rfl) (Eq.subst (motive := fun z => PP 0 E q z H) (show (sI τ_71 12 (ix (nI i_71)) (-1)) = (sI τ_71 12 (ix (nI i_71)) (-1)) from rfl) hP) hS
      exact L_71 4 0 (lp F_X0_startAnew_22 8 0 (sS (sS (sS (sS σ 13 n9) 14 0) 15 0) 16 0)) ls H locs rfl rfl (lv_sub hl [0, 1, 2] rfl) hP hS
    | succ n_22 ih_22 =>
      intro i_22 τ_22 ls H locs hi_22 hres_22 hl hP hS
      refine lv_iload_n hx hb dX0_startAnew_22 rfl (lv_at hl 0 rfl) ?_
      refine lv_bipush (v := 8) hx hb dX0_startAnew_23 (by decide) ?_
      refine lv_icmp_ge (tgt := 69) hx hb dX0_startAnew_25 (by decide) (fun h => absurd h (lp_in (show (8 : Int32) = nI 8 from rfl) (by omega) hi_22)) (fun _ => ?_)
      refine lv_aload_n hx hb dX0_startAnew_28 rfl (lv_at hl 1 rfl) ?_
      refine gf_X0_32 hx hb hts hown hK hP dX0_startAnew_29 ?_
      refine lv_iload_n hx hb dX0_startAnew_32 rfl (lv_at hl 0 rfl) ?_
      refine lv_lconst (v := 0) hx hb dX0_startAnew_33 (by decide) ?_
      refine st_7 hx hb hK hq hP hS (vp_in_nI (by omega) (by decide)) dX0_startAnew_34 (fun H locs hP hS => ?_)
      refine lv_aload_n hx hb dX0_startAnew_35 rfl (lv_at hl 1 rfl) ?_
      refine gf_X0_35 hx hb hts hown hK hP dX0_startAnew_36 ?_
      refine lv_iload_n hx hb dX0_startAnew_39 rfl (lv_at hl 0 rfl) ?_
      refine lv_iconst (v := -1) hx hb dX0_startAnew_40 (by decide) ?_
      refine st_8 hx hb hK hq hP hS (vp_in_nI (by omega) (by decide)) dX0_startAnew_41 (fun H locs hP hS => ?_)
      refine lv_aload_n hx hb dX0_startAnew_42 rfl (lv_at hl 1 rfl) ?_
      refine gf_X0_38 hx hb hts hown hK hP dX0_startAnew_43 ?_
      refine lv_iload_n hx hb dX0_startAnew_46 rfl (lv_at hl 0 rfl) ?_
      refine lv_iconst (v := 0) hx hb dX0_startAnew_47 (by decide) ?_
      refine st_9 hx hb hK hq hP hS (vp_in_nI (by omega) (by decide)) dX0_startAnew_48 (fun H locs hP hS => ?_)
      refine lv_aload_n hx hb dX0_startAnew_49 rfl (lv_at hl 1 rfl) ?_
      refine gf_X0_42 hx hb hts hown hK hP dX0_startAnew_50 ?_
      refine lv_iload_n hx hb dX0_startAnew_53 rfl (lv_at hl 0 rfl) ?_
      refine lv_iconst (v := 0) hx hb dX0_startAnew_54 (by decide) ?_
      refine st_10 hx hb hK hq hP hS (vp_in_nI (by omega) (by decide)) dX0_startAnew_55 (fun H locs hP hS => ?_)
      refine lv_aload_n hx hb dX0_startAnew_56 rfl (lv_at hl 1 rfl) ?_
      refine gf_X0_45 hx hb hts hown hK hP dX0_startAnew_57 ?_
      refine lv_iload_n hx hb dX0_startAnew_60 rfl (lv_at hl 0 rfl) ?_
      refine lv_iconst (v := 0) hx hb dX0_startAnew_61 (by decide) ?_
      refine st_11 hx hb hK hq hP hS (vp_in_nI (by omega) (by decide)) dX0_startAnew_62 (fun H locs hP hS => ?_)
      refine lv_iinc (v := (nI (i_22 + 1))) (lv' := [(2, .int (nI (i_22 + 1))), (0, .ref (q 0)), (1, .int n9)]) hx hb dX0_startAnew_63 hl (k := 0) rfl (nI_1 _) (by decide) rfl (fun ls hl => ?_)
      refine lv_goto (tgt := 22) hx hb dX0_startAnew_66 (by decide) ?_
      exact ih_22 (i_22 + 1) (sI (sI (sI (sI (sJ τ_22 7 (ix (nI i_22)) 0) 8 (ix (nI i_22)) (-1)) 9 (ix (nI i_22)) (vp_nar .boolean 0)) 10 (ix (nI i_22)) 0) 11 (ix (nI i_22)) 0) ls H locs (by omega) hres_22 (lv_sub (l' := [(2, .int (nI (i_22 + 1))), (0, .ref (q 0)), (1, .int n9)]) hl [0, 1, 2] rfl) (Eq.subst (motive := fun z => PP 0 E q z H) (show (sI (sI (sI (sI (sJ τ_22 7 (ix (nI i_22)) 0) 8 (ix (nI i_22)) (-1)) 9 (ix (nI i_22)) (vp_nar .boolean 0)) 10 (ix (nI i_22)) 0) 11 (ix (nI i_22)) 0) = (sI (sI (sI (sI (sJ τ_22 7 (ix (nI i_22)) 0) 8 (ix (nI i_22)) (-1)) 9 (ix (nI i_22)) (vp_nar .boolean 0)) 10 (ix (nI i_22)) 0) 11 (ix (nI i_22)) 0) from rfl) hP) hS
  exact L_22 8 0 (sS (sS (sS (sS σ 13 n9) 14 0) 15 0) 16 0) ls H locs rfl rfl (lv_sub hl [0, 1, 2] rfl) hP hS
def f_X0_setStealing (T C : Nat) (σ : St) (b9 : Int32) : Int32 := (σ.2.2 16)
def g_X0_setStealing (T C : Nat) (σ : St) (b9 : Int32) : St := (sS σ 16 b9)
def rm_X0_setStealing : Room := { frames := 0, cells := 0, slots := 0, locals := 0 }
set_option maxHeartbeats 1600000 in
set_option maxRecDepth 100000 in
theorem k_X0_setStealing (l : Launch) (E : Ev) (q : Nat → Nat) (hq : Dq q) {T C : Nat} (hT : T ≤ 16) (hC : 1 ≤ C ∧ C ≤ 4) (σ : St) (hI : Inv T C σ) (b9 : Int32) (hp0 : b9 = 0 ∨ b9 = 1) (hp1 : σ.2.2 16 = 0 ∨ σ.2.2 16 = 1) : WI l 0 E q σ yX0_setStealing cX0_setStealing 3 (some .boolean) rm_X0_setStealing [.int b9] (f_X0_setStealing T C σ b9) (g_X0_setStealing T C σ b9) (Inv T C (g_X0_setStealing T C σ b9) ∧ True) := by
  refine Met.ofB (by decide) (Nat.le_of_ble_eq_true rfl) (fun p e s m args below meth c ls Q B hQ hPK hl => ?_)
  obtain ⟨hx, hb, hml, hr, hlocks, hown, hts⟩ := B
  have S0 : Fx p m c cX0_setStealing 3 s args RX0 := ⟨hx, hb, hml, hown, hts⟩
  obtain ⟨hP, hK⟩ := hPK
  suffices KH : ∀ (H : Heap) (locs : List Loc), PP 0 E q σ H → va_S (Aq q) s.heap H locs → W p l e rm_X0_setStealing s m args below meth c H locs 0 0 Q (F0 m 0 ls []) from KH s.heap [] hP va_S.rf
  intro H locs hP hS
  have hl : lv_has ls 3 [(0, .ref (q 0)), (1, .int b9)] := hl
  have hI0 := hI
  refine lv_aload_n hx hb dX0_setStealing_0 rfl (lv_at hl 0 rfl) ?_
  refine gf_X0_66 hx hb hts hown hK hP dX0_setStealing_1 ?_
  refine lv_istore_n (lv' := [(2, .int (σ.2.2 16)), (0, .ref (q 0)), (1, .int b9)]) hx hb dX0_setStealing_4 rfl hl (by decide) rfl (fun ls hl => ?_)
  refine lv_aload_n hx hb dX0_setStealing_5 rfl (lv_at hl 1 rfl) ?_
  refine lv_iload_n hx hb dX0_setStealing_6 rfl (lv_at hl 2 rfl) ?_
  refine pf_X0_66 hx hb hts hown hK hq hP hS (nbf (by first | assumption | decide)) dX0_setStealing_7 (fun H locs hP hS => ?_)
  have hI : Inv T C (sS σ 16 b9) := inv_sS (by decide) hI
  refine lv_iload_n hx hb dX0_setStealing_10 rfl (lv_at hl 0 rfl) ?_
  exact rt_WZ hQ hx hb hr hlocks (nbf hp1).1 (Eq.subst (motive := fun z => PP 0 E q z H) (show (sS σ 16 b9) = (g_X0_setStealing T C σ b9) from rfl) hP) hS ⟨rfl, ⟨Eq.subst (motive := fun z => Inv T C z) (show (sS σ 16 b9) = (g_X0_setStealing T C σ b9) from rfl) hI, trivial⟩⟩ dX0_setStealing_11
def F_X0_releaseTasks_2 (T : Nat) (C : Nat) (r9 : Int32) : Nat → St → St := fun i_2 z => (if (z.1 3 (ix (nI i_2))) = 1 then (if (f_X0_isOnCore T C z (nI i_2) r9) = 0 then z else (sI z 3 (ix (nI i_2)) 0)) else z)
def g_X0_releaseTasks (T C : Nat) (σ : St) (r9 : Int32) : St := (lp (F_X0_releaseTasks_2 T C r9) T 0 σ)
def rm_X0_releaseTasks : Room := { frames := 2, cells := 0, slots := 0, locals := 42 }
set_option maxHeartbeats 1600000 in
set_option maxRecDepth 100000 in
theorem k_X0_releaseTasks (l : Launch) (E : Ev) (q : Nat → Nat) (hq : Dq q) {T C : Nat} (hT : T ≤ 16) (hC : 1 ≤ C ∧ C ≤ 4) (σ : St) (hI : Inv T C σ) (r9 : Int32) : WV l 0 E q σ yX0_releaseTasks cX0_releaseTasks 3 none rm_X0_releaseTasks [.int r9] (g_X0_releaseTasks T C σ r9) (Inv T C (g_X0_releaseTasks T C σ r9) ∧ True) := by
  refine Met.ofB (by decide) (Nat.le_of_ble_eq_true rfl) (fun p e s m args below meth c ls Q B hQ hPK hl => ?_)
  obtain ⟨hx, hb, hml, hr, hlocks, hown, hts⟩ := B
  have S0 : Fx p m c cX0_releaseTasks 3 s args RX0 := ⟨hx, hb, hml, hown, hts⟩
  obtain ⟨hP, hK⟩ := hPK
  suffices KH : ∀ (H : Heap) (locs : List Loc), PP 0 E q σ H → va_S (Aq q) s.heap H locs → W p l e rm_X0_releaseTasks s m args below meth c H locs 0 0 Q (F0 m 0 ls []) from KH s.heap [] hP va_S.rf
  intro H locs hP hS
  have hl : lv_has ls 3 [(0, .ref (q 0)), (1, .int r9)] := hl
  have hI0 := hI
  refine lv_iconst (v := 0) hx hb dX0_releaseTasks_0 (by decide) ?_
  refine lv_istore_n (lv' := [(2, .int 0), (0, .ref (q 0)), (1, .int r9)]) hx hb dX0_releaseTasks_1 rfl hl (by decide) rfl (fun ls hl => ?_)
  have L_2 : ∀ (n_2 i_2 : Nat) (τ_2 : St) (ls : Array Slot) (H : Heap) (locs : List Loc), i_2 + n_2 = T → lp (F_X0_releaseTasks_2 T C r9) n_2 i_2 τ_2 = (lp (F_X0_releaseTasks_2 T C r9) T 0 σ) → Inv T C τ_2 → lv_has ls 3 [(2, .int (nI i_2)), (0, .ref (q 0)), (1, .int r9)] → PP 0 E q τ_2 H → va_S (Aq q) s.heap H locs → W p l e rm_X0_releaseTasks s m args below meth c H locs 0 0 Q (F0 m 2 ls []) := by
    intro n_2
    induction n_2 with
    | zero =>
      intro i_2 τ_2 ls H locs hi_2 hres_2 hI hl hP hS
      have hres : τ_2 = (lp (F_X0_releaseTasks_2 T C r9) T 0 σ) := hres_2
      subst hres
      refine lv_iload_n hx hb dX0_releaseTasks_2 rfl (lv_at hl 0 rfl) ?_
      refine lv_aload_n hx hb dX0_releaseTasks_3 rfl (lv_at hl 1 rfl) ?_
      refine gf_X0_85 hx hb hts hown hK hP dX0_releaseTasks_4 ?_
      refine lv_icmp_ge (tgt := 42) hx hb dX0_releaseTasks_7 (by decide) (fun _ => ?_) (fun h => absurd (lp_out hI.2.1 (by omega) hi_2) h)
      have hl := lv_sub (l' := [(0, .ref (q 0)), (1, .int r9)]) hl [1, 2] rfl
      exact rt_WV hQ hx hb hr hlocks (Eq.subst (motive := fun z => PP 0 E q z H) (show (lp (F_X0_releaseTasks_2 T C r9) T 0 σ) = (g_X0_releaseTasks T C σ r9) from rfl) hP) hS ⟨Eq.subst (motive := fun z => Inv T C z) (show (lp (F_X0_releaseTasks_2 T C r9) T 0 σ) = (g_X0_releaseTasks T C σ r9) from rfl) hI, trivial⟩ dX0_releaseTasks_42
    | succ n_2 ih_2 =>
      intro i_2 τ_2 ls H locs hi_2 hres_2 hI hl hP hS
      refine lv_iload_n hx hb dX0_releaseTasks_2 rfl (lv_at hl 0 rfl) ?_
      refine lv_aload_n hx hb dX0_releaseTasks_3 rfl (lv_at hl 1 rfl) ?_
      refine gf_X0_85 hx hb hts hown hK hP dX0_releaseTasks_4 ?_
      refine lv_icmp_ge (tgt := 42) hx hb dX0_releaseTasks_7 (by decide) (fun h => absurd h (lp_in hI.2.1 (by omega) hi_2)) (fun _ => ?_)
      refine lv_aload_n hx hb dX0_releaseTasks_10 rfl (lv_at hl 1 rfl) ?_
      refine gf_X0_19 hx hb hts hown hK hP dX0_releaseTasks_11 ?_
      refine lv_iload_n hx hb dX0_releaseTasks_14 rfl (lv_at hl 0 rfl) ?_
      refine ld_3 hx hb hK hP (vp_in_nI (by omega) (by decide)) dX0_releaseTasks_15 ?_
      refine lv_iconst (v := 1) hx hb dX0_releaseTasks_16 (by decide) ?_
      refine cutG (fun ls H locs st => ∃ σ9 : St, σ9 = (if (τ_2.1 3 (ix (nI i_2))) = 1 then (if (f_X0_isOnCore T C τ_2 (nI i_2) r9) = 0 then τ_2 else (sI τ_2 3 (ix (nI i_2)) 0)) else τ_2) ∧ st = [] ∧ lv_has ls 3 [(2, .int (nI i_2)), (0, .ref (q 0)), (1, .int r9)] ∧ PP 0 E q σ9 H ∧ va_S (Aq q) s.heap H locs ∧ Inv T C σ9) 36 (fun ls H locs st hKp => ?_) (fun K17 => ?_)
      · revert hKp
        refine ex_eq (fun hKp => ?_)
        obtain ⟨rfl, hl, hP, hS, hI⟩ := hKp
        refine lv_iinc (v := (nI (i_2 + 1))) (lv' := [(2, .int (nI (i_2 + 1))), (0, .ref (q 0)), (1, .int r9)]) hx hb dX0_releaseTasks_36 hl (k := 0) rfl (nI_1 _) (by decide) rfl (fun ls hl => ?_)
        refine lv_goto (tgt := 2) hx hb dX0_releaseTasks_39 (by decide) ?_
        exact ih_2 (i_2 + 1) (if (τ_2.1 3 (ix (nI i_2))) = 1 then (if (f_X0_isOnCore T C τ_2 (nI i_2) r9) = 0 then τ_2 else (sI τ_2 3 (ix (nI i_2)) 0)) else τ_2) ls H locs (by omega) hres_2 (Eq.subst (motive := fun z => Inv T C z) (show (if (τ_2.1 3 (ix (nI i_2))) = 1 then (if (f_X0_isOnCore T C τ_2 (nI i_2) r9) = 0 then τ_2 else (sI τ_2 3 (ix (nI i_2)) 0)) else τ_2) = (if (τ_2.1 3 (ix (nI i_2))) = 1 then (if (f_X0_isOnCore T C τ_2 (nI i_2) r9) = 0 then τ_2 else (sI τ_2 3 (ix (nI i_2)) 0)) else τ_2) from rfl) hI) (lv_sub (l' := [(2, .int (nI (i_2 + 1))), (0, .ref (q 0)), (1, .int r9)]) hl [0, 1, 2] rfl) (Eq.subst (motive := fun z => PP 0 E q z H) (show (if (τ_2.1 3 (ix (nI i_2))) = 1 then (if (f_X0_isOnCore T C τ_2 (nI i_2) r9) = 0 then τ_2 else (sI τ_2 3 (ix (nI i_2)) 0)) else τ_2) = (if (τ_2.1 3 (ix (nI i_2))) = 1 then (if (f_X0_isOnCore T C τ_2 (nI i_2) r9) = 0 then τ_2 else (sI τ_2 3 (ix (nI i_2)) 0)) else τ_2) from rfl) hP) hS
      · refine lv_icmp_ne (tgt := 36) hx hb dX0_releaseTasks_17 (by decide) (fun h17 => ?_) (fun h17 => ?_)
        · skip
          exact K17 _ _ _ _ ⟨τ_2, (Eq.symm (if_neg h17)), rfl, lv_sub hl [0, 1, 2] rfl, hP, hS, hI⟩
        · skip
          refine lv_aload_n hx hb dX0_releaseTasks_20 rfl (lv_at hl 1 rfl) ?_
          refine lv_iload_n hx hb dX0_releaseTasks_21 rfl (lv_at hl 0 rfl) ?_
          refine lv_iload_n hx hb dX0_releaseTasks_22 rfl (lv_at hl 2 rfl) ?_
          refine cl_RI (k_X0_isOnCore l E q hq hT hC τ_2 hI (nI i_2) r9 (vp_in_nI (by omega) (by decide))) gw_X0_185 hd_X0_isOnCore ⟨rfl, rfl⟩ S0 hK hP (rest := []) rfl hl.1 (Nat.le_of_ble_eq_true rfl) ⟨(Nat.le_of_ble_eq_true rfl), (Nat.le_of_ble_eq_true rfl)⟩ ⟨Nat.zero_le _, Nat.zero_le _⟩ dX0_releaseTasks_23 (fun hex => ?_)
          refine lv_if_eq (tgt := 36) hx hb dX0_releaseTasks_26 (by decide) (fun h26 => ?_) (fun h26 => ?_)
          · skip
            exact K17 _ _ _ _ ⟨τ_2, (Eq.symm (Eq.trans (if_pos h17) (if_pos h26))), rfl, lv_sub hl [0, 1, 2] rfl, hP, hS, hI⟩
          · skip
            refine lv_aload_n hx hb dX0_releaseTasks_29 rfl (lv_at hl 1 rfl) ?_
            refine gf_X0_19 hx hb hts hown hK hP dX0_releaseTasks_30 ?_
            refine lv_iload_n hx hb dX0_releaseTasks_33 rfl (lv_at hl 0 rfl) ?_
            refine lv_iconst (v := 0) hx hb dX0_releaseTasks_34 (by decide) ?_
            refine st_3 hx hb hK hq hP hS (vp_in_nI (by omega) (by decide)) dX0_releaseTasks_35 (fun H locs hP hS => ?_)
            have hI : Inv T C (sI τ_2 3 (ix (nI i_2)) 0) := inv_sI (by decide) hI
            exact K17 _ _ _ _ ⟨(sI τ_2 3 (ix (nI i_2)) 0), (Eq.symm (Eq.trans (if_pos h17) (if_neg h26))), rfl, lv_sub hl [0, 1, 2] rfl, hP, hS, hI⟩
  exact L_2 T 0 σ ls H locs (Nat.zero_add T) rfl hI (lv_sub hl [0, 1, 2] rfl) hP hS
def f_X0_takeTask (T C : Nat) (σ : St) (c9 : Int32) (k9 : Int32) : Int32 := (if (f_X0_findOwn T C σ c9 k9) = (-1) then (if (σ.2.2 16) = 0 then (f_X0_findOwn T C σ c9 k9) else (f_X0_findLoot T C σ (f_X0_coreOfCpu c9) k9)) else (f_X0_findOwn T C σ c9 k9))
def g_X0_takeTask (T C : Nat) (σ : St) (c9 : Int32) (k9 : Int32) : St := (if (f_X0_findOwn T C σ c9 k9) = (-1) then (if (σ.2.2 16) = 0 then σ else (if (f_X0_findLoot T C σ (f_X0_coreOfCpu c9) k9) = (-1) then σ else (sS (g_X0_moveRunnable T C σ (f_X0_findLoot T C σ (f_X0_coreOfCpu c9) k9) c9) 15 (((g_X0_moveRunnable T C σ (f_X0_findLoot T C σ (f_X0_coreOfCpu c9) k9) c9).2.2 15) + 1)))) else σ)
def rm_X0_takeTask : Room := { frames := 4, cells := 0, slots := 0, locals := 89 }
set_option maxHeartbeats 1600000 in
set_option maxRecDepth 100000 in
theorem k_X0_takeTask (l : Launch) (E : Ev) (q : Nat → Nat) (hq : Dq q) {T C : Nat} (hT : T ≤ 16) (hC : 1 ≤ C ∧ C ≤ 4) (σ : St) (hI : Inv T C σ) (c9 : Int32) (k9 : Int32) (hp0 : vp_in c9 8) : WI l 0 E q σ yX0_takeTask cX0_takeTask 5 (some .int) rm_X0_takeTask [.int c9, .int k9] (f_X0_takeTask T C σ c9 k9) (g_X0_takeTask T C σ c9 k9) (Inv T C (g_X0_takeTask T C σ c9 k9) ∧ vo (f_X0_takeTask T C σ c9 k9) ∧ True) := by
  refine Met.ofB (by decide) (Nat.le_of_ble_eq_true rfl) (fun p e s m args below meth c ls Q B hQ hPK hl => ?_)
  obtain ⟨hx, hb, hml, hr, hlocks, hown, hts⟩ := B
  have S0 : Fx p m c cX0_takeTask 5 s args RX0 := ⟨hx, hb, hml, hown, hts⟩
  obtain ⟨hP, hK⟩ := hPK
  suffices KH : ∀ (H : Heap) (locs : List Loc), PP 0 E q σ H → va_S (Aq q) s.heap H locs → W p l e rm_X0_takeTask s m args below meth c H locs 0 0 Q (F0 m 0 ls []) from KH s.heap [] hP va_S.rf
  intro H locs hP hS
  have hl : lv_has ls 5 [(0, .ref (q 0)), (1, .int c9), (2, .int k9)] := hl
  have hI0 := hI
  refine lv_aload_n hx hb dX0_takeTask_0 rfl (lv_at hl 0 rfl) ?_
  refine lv_iload_n hx hb dX0_takeTask_1 rfl (lv_at hl 1 rfl) ?_
  refine lv_iload_n hx hb dX0_takeTask_2 rfl (lv_at hl 2 rfl) ?_
  refine cl_RI (k_X0_findOwn l E q hq hT hC σ hI c9 k9 ) gw_X0_188 hd_X0_findOwn ⟨rfl, rfl⟩ S0 hK hP (rest := []) rfl hl.1 (Nat.le_of_ble_eq_true rfl) ⟨(Nat.le_of_ble_eq_true rfl), (Nat.le_of_ble_eq_true rfl)⟩ ⟨Nat.zero_le _, Nat.zero_le _⟩ dX0_takeTask_3 (fun hex => ?_)
  obtain ⟨hx3_0, -⟩ := hex
  refine lv_istore_n (lv' := [(3, .int (f_X0_findOwn T C σ c9 k9)), (0, .ref (q 0)), (1, .int c9), (2, .int k9)]) hx hb dX0_takeTask_6 rfl hl (by decide) rfl (fun ls hl => ?_)
  refine lv_iload_n hx hb dX0_takeTask_7 rfl (lv_at hl 0 rfl) ?_
  refine lv_iconst (v := -1) hx hb dX0_takeTask_8 (by decide) ?_
  refine lv_icmp_ne (tgt := 19) hx hb dX0_takeTask_9 (by decide) (fun h9 => ?_) (fun h9 => ?_)
  · skip
    refine lv_iload_n hx hb dX0_takeTask_19 rfl (lv_at hl 0 rfl) ?_
    exact rt_WI hQ hx hb hr hlocks (Eq.subst (motive := fun z => PP 0 E q z H) (show σ = (g_X0_takeTask T C σ c9 k9) from (Eq.symm (if_neg h9))) hP) hS ⟨(Eq.symm (if_neg h9)), ⟨Eq.subst (motive := fun z => Inv T C z) (show σ = (g_X0_takeTask T C σ c9 k9) from (Eq.symm (if_neg h9))) hI, Eq.subst (motive := fun z => vo z) (show (f_X0_findOwn T C σ c9 k9) = (f_X0_takeTask T C σ c9 k9) from (Eq.symm (if_neg h9))) (show vo (f_X0_findOwn T C σ c9 k9) from hx3_0), trivial⟩⟩ dX0_takeTask_20
  · skip
    refine lv_aload_n hx hb dX0_takeTask_12 rfl (lv_at hl 1 rfl) ?_
    refine gf_X0_66 hx hb hts hown hK hP dX0_takeTask_13 ?_
    refine lv_if_ne (tgt := 21) hx hb dX0_takeTask_16 (by decide) (fun h16 => ?_) (fun h16 => ?_)
    · skip
      refine lv_aload_n hx hb dX0_takeTask_21 rfl (lv_at hl 1 rfl) ?_
      refine lv_iload_n hx hb dX0_takeTask_22 rfl (lv_at hl 2 rfl) ?_
      refine cl_NI (k_X0_coreOfCpu l c9) gw_X0_160 hd_X0_coreOfCpu ⟨rfl, rfl⟩ S0 (rest := [.ref (q 0)]) rfl hl.1 (Nat.le_of_ble_eq_true rfl) ⟨(Nat.le_of_ble_eq_true rfl), (Nat.le_of_ble_eq_true rfl)⟩ ⟨Nat.zero_le _, Nat.zero_le _⟩ dX0_takeTask_23 ?_
      refine lv_iload_n hx hb dX0_takeTask_26 rfl (lv_at hl 3 rfl) ?_
      refine cl_RI (k_X0_findLoot l E q hq hT hC σ hI (f_X0_coreOfCpu c9) k9 ) gw_X0_191 hd_X0_findLoot ⟨rfl, rfl⟩ S0 hK hP (rest := []) rfl hl.1 (Nat.le_of_ble_eq_true rfl) ⟨(Nat.le_of_ble_eq_true rfl), (Nat.le_of_ble_eq_true rfl)⟩ ⟨Nat.zero_le _, Nat.zero_le _⟩ dX0_takeTask_27 (fun hex => ?_)
      obtain ⟨hx27_0, -⟩ := hex
      refine lv_istore (lv' := [(4, .int (f_X0_findLoot T C σ (f_X0_coreOfCpu c9) k9)), (3, .int (f_X0_findOwn T C σ c9 k9)), (0, .ref (q 0)), (1, .int c9), (2, .int k9)]) hx hb dX0_takeTask_30 hl (by decide) rfl (fun ls hl => ?_)
      refine lv_iload hx hb dX0_takeTask_32 (lv_at hl 0 rfl) ?_
      refine lv_iconst (v := -1) hx hb dX0_takeTask_34 (by decide) ?_
      refine cutG (fun ls H locs st => ∃ σ9 : St, σ9 = (if (f_X0_findLoot T C σ (f_X0_coreOfCpu c9) k9) = (-1) then σ else (sS (g_X0_moveRunnable T C σ (f_X0_findLoot T C σ (f_X0_coreOfCpu c9) k9) c9) 15 (((g_X0_moveRunnable T C σ (f_X0_findLoot T C σ (f_X0_coreOfCpu c9) k9) c9).2.2 15) + 1))) ∧ st = [] ∧ lv_has ls 5 [(4, .int (f_X0_findLoot T C σ (f_X0_coreOfCpu c9) k9)), (3, .int (f_X0_findOwn T C σ c9 k9)), (0, .ref (q 0)), (1, .int c9), (2, .int k9)] ∧ PP 0 E q σ9 H ∧ va_S (Aq q) s.heap H locs ∧ Inv T C σ9) 55 (fun ls H locs st hKp => ?_) (fun K35 => ?_)
      · revert hKp
        refine ex_eq (fun hKp => ?_)
        obtain ⟨rfl, hl, hP, hS, hI⟩ := hKp
        refine lv_iload hx hb dX0_takeTask_55 (lv_at hl 0 rfl) ?_
        exact rt_WI hQ hx hb hr hlocks (Eq.subst (motive := fun z => PP 0 E q z H) (show (if (f_X0_findLoot T C σ (f_X0_coreOfCpu c9) k9) = (-1) then σ else (sS (g_X0_moveRunnable T C σ (f_X0_findLoot T C σ (f_X0_coreOfCpu c9) k9) c9) 15 (((g_X0_moveRunnable T C σ (f_X0_findLoot T C σ (f_X0_coreOfCpu c9) k9) c9).2.2 15) + 1))) = (g_X0_takeTask T C σ c9 k9) from (Eq.symm (Eq.trans (if_pos h9) (if_neg h16)))) hP) hS ⟨(Eq.symm (Eq.trans (if_pos h9) (if_neg h16))), ⟨Eq.subst (motive := fun z => Inv T C z) (show (if (f_X0_findLoot T C σ (f_X0_coreOfCpu c9) k9) = (-1) then σ else (sS (g_X0_moveRunnable T C σ (f_X0_findLoot T C σ (f_X0_coreOfCpu c9) k9) c9) 15 (((g_X0_moveRunnable T C σ (f_X0_findLoot T C σ (f_X0_coreOfCpu c9) k9) c9).2.2 15) + 1))) = (g_X0_takeTask T C σ c9 k9) from (Eq.symm (Eq.trans (if_pos h9) (if_neg h16)))) hI, Eq.subst (motive := fun z => vo z) (show (f_X0_findLoot T C σ (f_X0_coreOfCpu c9) k9) = (f_X0_takeTask T C σ c9 k9) from (Eq.symm (Eq.trans (if_pos h9) (if_neg h16)))) (show vo (f_X0_findLoot T C σ (f_X0_coreOfCpu c9) k9) from hx27_0), trivial⟩⟩ dX0_takeTask_57
      · refine lv_icmp_eq (tgt := 55) hx hb dX0_takeTask_35 (by decide) (fun h35 => ?_) (fun h35 => ?_)
        · skip
          exact K35 _ _ _ _ ⟨σ, (Eq.symm (if_pos h35)), rfl, lv_sub hl [0, 1, 2, 3, 4] rfl, hP, hS, hI⟩
        · skip
          refine lv_aload_n hx hb dX0_takeTask_38 rfl (lv_at hl 2 rfl) ?_
          refine lv_iload hx hb dX0_takeTask_39 (lv_at hl 0 rfl) ?_
          refine lv_iload_n hx hb dX0_takeTask_41 rfl (lv_at hl 3 rfl) ?_
          refine cl_WV (k_X0_moveRunnable l E q hq hT hC σ hI (f_X0_findLoot T C σ (f_X0_coreOfCpu c9) k9) c9 (vo.in hx27_0 h35) hp0) gw_X0_116 hd_X0_moveRunnable ⟨rfl, rfl⟩ S0 hK hP hS (rest := []) rfl hl.1 (Nat.le_of_ble_eq_true rfl) ⟨(Nat.le_of_ble_eq_true rfl), (Nat.le_of_ble_eq_true rfl)⟩ ⟨Nat.zero_le _, Nat.zero_le _⟩ dX0_takeTask_42 (fun H locs hP hS hex => ?_)
          obtain ⟨hI, -⟩ := hex
          refine lv_aload_n hx hb dX0_takeTask_45 rfl (lv_at hl 2 rfl) ?_
          refine lv_dup hx hb dX0_takeTask_46 rfl ?_
          refine gf_X0_142 hx hb hts hown hK hP dX0_takeTask_47 ?_
          refine lv_iconst (v := 1) hx hb dX0_takeTask_50 (by decide) ?_
          refine lv_iadd hx hb dX0_takeTask_51 ?_
          refine pf_X0_142 hx hb hts hown hK hq hP hS dX0_takeTask_52 (fun H locs hP hS => ?_)
          have hI : Inv T C (sS (g_X0_moveRunnable T C σ (f_X0_findLoot T C σ (f_X0_coreOfCpu c9) k9) c9) 15 (((g_X0_moveRunnable T C σ (f_X0_findLoot T C σ (f_X0_coreOfCpu c9) k9) c9).2.2 15) + 1)) := inv_sS (by decide) hI
          exact K35 _ _ _ _ ⟨(sS (g_X0_moveRunnable T C σ (f_X0_findLoot T C σ (f_X0_coreOfCpu c9) k9) c9) 15 (((g_X0_moveRunnable T C σ (f_X0_findLoot T C σ (f_X0_coreOfCpu c9) k9) c9).2.2 15) + 1)), (Eq.symm (if_neg h35)), rfl, lv_sub hl [0, 1, 2, 3, 4] rfl, hP, hS, hI⟩
    · skip
      refine lv_iload_n hx hb dX0_takeTask_19 rfl (lv_at hl 0 rfl) ?_
      exact rt_WI hQ hx hb hr hlocks (Eq.subst (motive := fun z => PP 0 E q z H) (show σ = (g_X0_takeTask T C σ c9 k9) from (Eq.symm (Eq.trans (if_pos h9) (if_pos h16)))) hP) hS ⟨(Eq.symm (Eq.trans (if_pos h9) (if_pos h16))), ⟨Eq.subst (motive := fun z => Inv T C z) (show σ = (g_X0_takeTask T C σ c9 k9) from (Eq.symm (Eq.trans (if_pos h9) (if_pos h16)))) hI, Eq.subst (motive := fun z => vo z) (show (f_X0_findOwn T C σ c9 k9) = (f_X0_takeTask T C σ c9 k9) from (Eq.symm (Eq.trans (if_pos h9) (if_pos h16)))) (show vo (f_X0_findOwn T C σ c9 k9) from hx3_0), trivial⟩⟩ dX0_takeTask_20
def g_X0_giveToCpu (T C : Nat) (σ : St) (c9 : Int32) (t : Int32) : St := (if t = (-1) then (sI (sI σ 8 (ix c9) t) 9 (ix c9) (vp_nar .boolean (if t = (-1) then (if (f_X0_countQueue T C (sI σ 8 (ix c9) t) c9) ≤ 0 then 0 else 1) else 0))) else (sI (sI (sI σ 8 (ix c9) t) 9 (ix c9) (vp_nar .boolean (if t = (-1) then (if (f_X0_countQueue T C (sI σ 8 (ix c9) t) c9) ≤ 0 then 0 else 1) else 0))) 3 (ix t) 1))
def rm_X0_giveToCpu : Room := { frames := 3, cells := 0, slots := 0, locals := 66 }
set_option maxHeartbeats 1600000 in
set_option maxRecDepth 100000 in
theorem k_X0_giveToCpu (l : Launch) (E : Ev) (q : Nat → Nat) (hq : Dq q) {T C : Nat} (hT : T ≤ 16) (hC : 1 ≤ C ∧ C ≤ 4) (σ : St) (hI : Inv T C σ) (c9 : Int32) (t : Int32) (hp0 : vp_in c9 8) (hp1 : vo t) : WV l 0 E q σ yX0_giveToCpu cX0_giveToCpu 3 none rm_X0_giveToCpu [.int c9, .int t] (g_X0_giveToCpu T C σ c9 t) (Inv T C (g_X0_giveToCpu T C σ c9 t) ∧ True) := by
  refine Met.ofB (by decide) (Nat.le_of_ble_eq_true rfl) (fun p e s m args below meth c ls Q B hQ hPK hl => ?_)
  obtain ⟨hx, hb, hml, hr, hlocks, hown, hts⟩ := B
  have S0 : Fx p m c cX0_giveToCpu 3 s args RX0 := ⟨hx, hb, hml, hown, hts⟩
  obtain ⟨hP, hK⟩ := hPK
  suffices KH : ∀ (H : Heap) (locs : List Loc), PP 0 E q σ H → va_S (Aq q) s.heap H locs → W p l e rm_X0_giveToCpu s m args below meth c H locs 0 0 Q (F0 m 0 ls []) from KH s.heap [] hP va_S.rf
  intro H locs hP hS
  have hl : lv_has ls 3 [(0, .ref (q 0)), (1, .int c9), (2, .int t)] := hl
  have hI0 := hI
  refine lv_aload_n hx hb dX0_giveToCpu_0 rfl (lv_at hl 0 rfl) ?_
  refine gf_X0_35 hx hb hts hown hK hP dX0_giveToCpu_1 ?_
  refine lv_iload_n hx hb dX0_giveToCpu_4 rfl (lv_at hl 1 rfl) ?_
  refine lv_iload_n hx hb dX0_giveToCpu_5 rfl (lv_at hl 2 rfl) ?_
  refine st_8 hx hb hK hq hP hS hp0 dX0_giveToCpu_6 (fun H locs hP hS => ?_)
  have hI : Inv T C (sI σ 8 (ix c9) t) := inv_sI (by decide) hI
  refine lv_aload_n hx hb dX0_giveToCpu_7 rfl (lv_at hl 0 rfl) ?_
  refine gf_X0_38 hx hb hts hown hK hP dX0_giveToCpu_8 ?_
  refine lv_iload_n hx hb dX0_giveToCpu_11 rfl (lv_at hl 1 rfl) ?_
  refine lv_iload_n hx hb dX0_giveToCpu_12 rfl (lv_at hl 2 rfl) ?_
  refine lv_iconst (v := -1) hx hb dX0_giveToCpu_13 (by decide) ?_
  refine cutG (fun ls H locs st => ∃ y0 : Int32, y0 = (if t = (-1) then (if (f_X0_countQueue T C (sI σ 8 (ix c9) t) c9) ≤ 0 then 0 else 1) else 0) ∧ st = [.int y0, .int c9, .ref (q 10)] ∧ lv_has ls 3 [(0, .ref (q 0)), (1, .int c9), (2, .int t)] ∧ PP 0 E q (sI σ 8 (ix c9) t) H ∧ va_S (Aq q) s.heap H locs ∧ Inv T C (sI σ 8 (ix c9) t)) 30 (fun ls H locs st hKp => ?_) (fun K14 => ?_)
  · revert hKp
    refine ex_eq (fun hKp => ?_)
    obtain ⟨rfl, hl, hP, hS, hI⟩ := hKp
    refine st_9 hx hb hK hq hP hS hp0 dX0_giveToCpu_30 (fun H locs hP hS => ?_)
    have hI : Inv T C (sI (sI σ 8 (ix c9) t) 9 (ix c9) (vp_nar .boolean (if t = (-1) then (if (f_X0_countQueue T C (sI σ 8 (ix c9) t) c9) ≤ 0 then 0 else 1) else 0))) := inv_sI (by decide) hI
    refine lv_iload_n hx hb dX0_giveToCpu_31 rfl (lv_at hl 2 rfl) ?_
    refine lv_iconst (v := -1) hx hb dX0_giveToCpu_32 (by decide) ?_
    refine cutG (fun ls H locs st => ∃ σ9 : St, σ9 = (if t = (-1) then (sI (sI σ 8 (ix c9) t) 9 (ix c9) (vp_nar .boolean (if t = (-1) then (if (f_X0_countQueue T C (sI σ 8 (ix c9) t) c9) ≤ 0 then 0 else 1) else 0))) else (sI (sI (sI σ 8 (ix c9) t) 9 (ix c9) (vp_nar .boolean (if t = (-1) then (if (f_X0_countQueue T C (sI σ 8 (ix c9) t) c9) ≤ 0 then 0 else 1) else 0))) 3 (ix t) 1)) ∧ st = [] ∧ lv_has ls 3 [(0, .ref (q 0)), (1, .int c9), (2, .int t)] ∧ PP 0 E q σ9 H ∧ va_S (Aq q) s.heap H locs ∧ Inv T C σ9) 43 (fun ls H locs st hKp => ?_) (fun K33 => ?_)
    · revert hKp
      refine ex_eq (fun hKp => ?_)
      obtain ⟨rfl, hl, hP, hS, hI⟩ := hKp
      exact rt_WV hQ hx hb hr hlocks (Eq.subst (motive := fun z => PP 0 E q z H) (show (if t = (-1) then (sI (sI σ 8 (ix c9) t) 9 (ix c9) (vp_nar .boolean (if t = (-1) then (if (f_X0_countQueue T C (sI σ 8 (ix c9) t) c9) ≤ 0 then 0 else 1) else 0))) else (sI (sI (sI σ 8 (ix c9) t) 9 (ix c9) (vp_nar .boolean (if t = (-1) then (if (f_X0_countQueue T C (sI σ 8 (ix c9) t) c9) ≤ 0 then 0 else 1) else 0))) 3 (ix t) 1)) = (g_X0_giveToCpu T C σ c9 t) from rfl) hP) hS ⟨Eq.subst (motive := fun z => Inv T C z) (show (if t = (-1) then (sI (sI σ 8 (ix c9) t) 9 (ix c9) (vp_nar .boolean (if t = (-1) then (if (f_X0_countQueue T C (sI σ 8 (ix c9) t) c9) ≤ 0 then 0 else 1) else 0))) else (sI (sI (sI σ 8 (ix c9) t) 9 (ix c9) (vp_nar .boolean (if t = (-1) then (if (f_X0_countQueue T C (sI σ 8 (ix c9) t) c9) ≤ 0 then 0 else 1) else 0))) 3 (ix t) 1)) = (g_X0_giveToCpu T C σ c9 t) from rfl) hI, trivial⟩ dX0_giveToCpu_43
    · refine lv_icmp_eq (tgt := 43) hx hb dX0_giveToCpu_33 (by decide) (fun h33 => ?_) (fun h33 => ?_)
      · skip
        exact K33 _ _ _ _ ⟨(sI (sI σ 8 (ix c9) t) 9 (ix c9) (vp_nar .boolean (if t = (-1) then (if (f_X0_countQueue T C (sI σ 8 (ix c9) t) c9) ≤ 0 then 0 else 1) else 0))), (Eq.symm (if_pos h33)), rfl, lv_sub hl [0, 1, 2] rfl, hP, hS, hI⟩
      · skip
        refine lv_aload_n hx hb dX0_giveToCpu_36 rfl (lv_at hl 0 rfl) ?_
        refine gf_X0_19 hx hb hts hown hK hP dX0_giveToCpu_37 ?_
        refine lv_iload_n hx hb dX0_giveToCpu_40 rfl (lv_at hl 2 rfl) ?_
        refine lv_iconst (v := 1) hx hb dX0_giveToCpu_41 (by decide) ?_
        refine st_3 hx hb hK hq hP hS (vo.in hp1 h33) dX0_giveToCpu_42 (fun H locs hP hS => ?_)
        have hI : Inv T C (sI (sI (sI σ 8 (ix c9) t) 9 (ix c9) (vp_nar .boolean (if t = (-1) then (if (f_X0_countQueue T C (sI σ 8 (ix c9) t) c9) ≤ 0 then 0 else 1) else 0))) 3 (ix t) 1) := inv_sI (by decide) hI
        exact K33 _ _ _ _ ⟨(sI (sI (sI σ 8 (ix c9) t) 9 (ix c9) (vp_nar .boolean (if t = (-1) then (if (f_X0_countQueue T C (sI σ 8 (ix c9) t) c9) ≤ 0 then 0 else 1) else 0))) 3 (ix t) 1), (Eq.symm (if_neg h33)), rfl, lv_sub hl [0, 1, 2] rfl, hP, hS, hI⟩
  · refine lv_icmp_ne (tgt := 29) hx hb dX0_giveToCpu_14 (by decide) (fun h14 => ?_) (fun h14 => ?_)
    · skip
      refine lv_iconst (v := 0) hx hb dX0_giveToCpu_29 (by decide) ?_
      exact K14 _ _ _ _ ⟨0, (Eq.symm (if_neg h14)), rfl, lv_sub hl [0, 1, 2] rfl, hP, hS, hI⟩
    · skip
      refine lv_aload_n hx hb dX0_giveToCpu_17 rfl (lv_at hl 0 rfl) ?_
      refine lv_iload_n hx hb dX0_giveToCpu_18 rfl (lv_at hl 1 rfl) ?_
      refine cl_RI (k_X0_countQueue l E q hq hT hC (sI σ 8 (ix c9) t) hI c9 ) gw_X0_127 hd_X0_countQueue ⟨rfl, rfl⟩ S0 hK hP (rest := [.int c9, .ref (q 10)]) rfl hl.1 (Nat.le_of_ble_eq_true rfl) ⟨(Nat.le_of_ble_eq_true rfl), (Nat.le_of_ble_eq_true rfl)⟩ ⟨Nat.zero_le _, Nat.zero_le _⟩ dX0_giveToCpu_19 (fun hex => ?_)
      refine lv_if_le (tgt := 29) hx hb dX0_giveToCpu_22 (by decide) (fun h22 => ?_) (fun h22 => ?_)
      · skip
        refine lv_iconst (v := 0) hx hb dX0_giveToCpu_29 (by decide) ?_
        exact K14 _ _ _ _ ⟨0, (Eq.symm (Eq.trans (if_pos h14) (if_pos h22))), rfl, lv_sub hl [0, 1, 2] rfl, hP, hS, hI⟩
      · skip
        refine lv_iconst (v := 1) hx hb dX0_giveToCpu_25 (by decide) ?_
        refine lv_goto (tgt := 30) hx hb dX0_giveToCpu_26 (by decide) ?_
        exact K14 _ _ _ _ ⟨1, (Eq.symm (Eq.trans (if_pos h14) (if_neg h22))), rfl, lv_sub hl [0, 1, 2] rfl, hP, hS, hI⟩
def F_X0_pickForCore_43 (T : Nat) (C : Nat) (σ : St) (j : Nat) : Nat → St → St := fun i_43 z => (g_X0_giveToCpu T C (if (f_X0_findLeader T C σ (nI j)) = (-1) then z else (g_X0_takeTask T C z (nI i_43) (if (f_X0_findLeader T C σ (nI j)) = (-1) then (-1) else (σ.1 2 (ix (f_X0_findLeader T C σ (nI j))))))) (nI i_43) (if (f_X0_findLeader T C σ (nI j)) = (-1) then (-1) else (f_X0_takeTask T C z (nI i_43) (if (f_X0_findLeader T C σ (nI j)) = (-1) then (-1) else (σ.1 2 (ix (f_X0_findLeader T C σ (nI j))))))))
def g_X0_pickForCore (T C : Nat) (σ : St) (j : Nat) : St := (lp (F_X0_pickForCore_43 T C σ j) 2 (2 * j) (g_X0_releaseTasks T C (sI σ 12 (ix (nI j)) (if (f_X0_findLeader T C σ (nI j)) = (-1) then (-1) else (σ.1 2 (ix (f_X0_findLeader T C σ (nI j)))))) (nI j)))
def rm_X0_pickForCore : Room := { frames := 5, cells := 0, slots := 0, locals := 113 }
set_option maxHeartbeats 1600000 in
set_option maxRecDepth 100000 in
theorem k_X0_pickForCore (l : Launch) (E : Ev) (q : Nat → Nat) (hq : Dq q) {T C : Nat} (hT : T ≤ 16) (hC : 1 ≤ C ∧ C ≤ 4) (σ : St) (hI : Inv T C σ) (j : Nat) (hp0 : j < 4) : WV l 0 E q σ yX0_pickForCore cX0_pickForCore 7 none rm_X0_pickForCore [.int (nI j)] (g_X0_pickForCore T C σ j) (Inv T C (g_X0_pickForCore T C σ j) ∧ True) := by
  refine Met.ofB (by decide) (Nat.le_of_ble_eq_true rfl) (fun p e s m args below meth c ls Q B hQ hPK hl => ?_)
  obtain ⟨hx, hb, hml, hr, hlocks, hown, hts⟩ := B
  have S0 : Fx p m c cX0_pickForCore 7 s args RX0 := ⟨hx, hb, hml, hown, hts⟩
  obtain ⟨hP, hK⟩ := hPK
  suffices KH : ∀ (H : Heap) (locs : List Loc), PP 0 E q σ H → va_S (Aq q) s.heap H locs → W p l e rm_X0_pickForCore s m args below meth c H locs 0 0 Q (F0 m 0 ls []) from KH s.heap [] hP va_S.rf
  intro H locs hP hS
  have hl : lv_has ls 7 [(0, .ref (q 0)), (1, .int (nI j))] := hl
  have hI0 := hI
  refine lv_aload_n hx hb dX0_pickForCore_0 rfl (lv_at hl 0 rfl) ?_
  refine lv_iload_n hx hb dX0_pickForCore_1 rfl (lv_at hl 1 rfl) ?_
  refine cl_RI (k_X0_findLeader l E q hq hT hC σ hI (nI j) ) gw_X0_123 hd_X0_findLeader ⟨rfl, rfl⟩ S0 hK hP (rest := []) rfl hl.1 (Nat.le_of_ble_eq_true rfl) ⟨(Nat.le_of_ble_eq_true rfl), (Nat.le_of_ble_eq_true rfl)⟩ ⟨Nat.zero_le _, Nat.zero_le _⟩ dX0_pickForCore_2 (fun hex => ?_)
  obtain ⟨hx2_0, -⟩ := hex
  refine lv_istore_n (lv' := [(2, .int (f_X0_findLeader T C σ (nI j))), (0, .ref (q 0)), (1, .int (nI j))]) hx hb dX0_pickForCore_5 rfl hl (by decide) rfl (fun ls hl => ?_)
  refine lv_iload_n hx hb dX0_pickForCore_6 rfl (lv_at hl 0 rfl) ?_
  refine lv_iconst (v := -1) hx hb dX0_pickForCore_7 (by decide) ?_
  refine cutG (fun ls H locs st => ∃ y0 : Int32, y0 = (if (f_X0_findLeader T C σ (nI j)) = (-1) then (-1) else (σ.1 2 (ix (f_X0_findLeader T C σ (nI j))))) ∧ st = [.int y0] ∧ lv_has ls 7 [(2, .int (f_X0_findLeader T C σ (nI j))), (0, .ref (q 0)), (1, .int (nI j))] ∧ PP 0 E q σ H ∧ va_S (Aq q) s.heap H locs ∧ Inv T C σ) 21 (fun ls H locs st hKp => ?_) (fun K8 => ?_)
  · revert hKp
    refine ex_eq (fun hKp => ?_)
    obtain ⟨rfl, hl, hP, hS, hI⟩ := hKp
    refine lv_istore_n (lv' := [(3, .int (if (f_X0_findLeader T C σ (nI j)) = (-1) then (-1) else (σ.1 2 (ix (f_X0_findLeader T C σ (nI j)))))), (2, .int (f_X0_findLeader T C σ (nI j))), (0, .ref (q 0)), (1, .int (nI j))]) hx hb dX0_pickForCore_21 rfl hl (by decide) rfl (fun ls hl => ?_)
    refine lv_aload_n hx hb dX0_pickForCore_22 rfl (lv_at hl 2 rfl) ?_
    refine gf_X0_48 hx hb hts hown hK hP dX0_pickForCore_23 ?_
    refine lv_iload_n hx hb dX0_pickForCore_26 rfl (lv_at hl 3 rfl) ?_
    refine lv_iload_n hx hb dX0_pickForCore_27 rfl (lv_at hl 0 rfl) ?_
    refine st_12 hx hb hK hq hP hS (vp_in_nI (by omega) (by decide)) dX0_pickForCore_28 (fun H locs hP hS => ?_)
    have hI : Inv T C (sI σ 12 (ix (nI j)) (if (f_X0_findLeader T C σ (nI j)) = (-1) then (-1) else (σ.1 2 (ix (f_X0_findLeader T C σ (nI j)))))) := inv_sI (by decide) hI
    refine lv_aload_n hx hb dX0_pickForCore_29 rfl (lv_at hl 2 rfl) ?_
    refine lv_iload_n hx hb dX0_pickForCore_30 rfl (lv_at hl 3 rfl) ?_
    refine cl_WV (k_X0_releaseTasks l E q hq hT hC (sI σ 12 (ix (nI j)) (if (f_X0_findLeader T C σ (nI j)) = (-1) then (-1) else (σ.1 2 (ix (f_X0_findLeader T C σ (nI j)))))) hI (nI j) ) gw_X0_176 hd_X0_releaseTasks ⟨rfl, rfl⟩ S0 hK hP hS (rest := []) rfl hl.1 (Nat.le_of_ble_eq_true rfl) ⟨(Nat.le_of_ble_eq_true rfl), (Nat.le_of_ble_eq_true rfl)⟩ ⟨Nat.zero_le _, Nat.zero_le _⟩ dX0_pickForCore_31 (fun H locs hP hS hex => ?_)
    obtain ⟨hI, -⟩ := hex
    refine lv_iconst (v := 2) hx hb dX0_pickForCore_34 (by decide) ?_
    refine lv_iload_n hx hb dX0_pickForCore_35 rfl (lv_at hl 3 rfl) ?_
    refine lv_imul hx hb dX0_pickForCore_36 ?_
    rw [mul2 j]
    refine lv_istore (lv' := [(4, .int (nI (2 * j))), (3, .int (if (f_X0_findLeader T C σ (nI j)) = (-1) then (-1) else (σ.1 2 (ix (f_X0_findLeader T C σ (nI j)))))), (2, .int (f_X0_findLeader T C σ (nI j))), (0, .ref (q 0)), (1, .int (nI j))]) hx hb dX0_pickForCore_37 hl (by decide) rfl (fun ls hl => ?_)
    refine lv_iload hx hb dX0_pickForCore_39 (lv_at hl 0 rfl) ?_
    refine lv_istore (lv' := [(5, .int (nI (2 * j))), (4, .int (nI (2 * j))), (3, .int (if (f_X0_findLeader T C σ (nI j)) = (-1) then (-1) else (σ.1 2 (ix (f_X0_findLeader T C σ (nI j)))))), (2, .int (f_X0_findLeader T C σ (nI j))), (0, .ref (q 0)), (1, .int (nI j))]) hx hb dX0_pickForCore_41 hl (by decide) rfl (fun ls hl => ?_)
    have L_43 : ∀ (n_43 i_43 : Nat) (τ_43 : St) (ls : Array Slot) (H : Heap) (locs : List Loc), i_43 + n_43 = (2 * j + 2) → lp (F_X0_pickForCore_43 T C σ j) n_43 i_43 τ_43 = (lp (F_X0_pickForCore_43 T C σ j) 2 (2 * j) (g_X0_releaseTasks T C (sI σ 12 (ix (nI j)) (if (f_X0_findLeader T C σ (nI j)) = (-1) then (-1) else (σ.1 2 (ix (f_X0_findLeader T C σ (nI j)))))) (nI j))) → Inv T C τ_43 → lv_has ls 7 [(5, .int (nI i_43)), (4, .int (nI (2 * j))), (3, .int (if (f_X0_findLeader T C σ (nI j)) = (-1) then (-1) else (σ.1 2 (ix (f_X0_findLeader T C σ (nI j)))))), (2, .int (f_X0_findLeader T C σ (nI j))), (0, .ref (q 0)), (1, .int (nI j))] → PP 0 E q τ_43 H → va_S (Aq q) s.heap H locs → W p l e rm_X0_pickForCore s m args below meth c H locs 0 0 Q (F0 m 43 ls []) := by
      intro n_43
      induction n_43 with
      | zero =>
        intro i_43 τ_43 ls H locs hi_43 hres_43 hI hl hP hS
        have hres : τ_43 = (lp (F_X0_pickForCore_43 T C σ j) 2 (2 * j) (g_X0_releaseTasks T C (sI σ 12 (ix (nI j)) (if (f_X0_findLeader T C σ (nI j)) = (-1) then (-1) else (σ.1 2 (ix (f_X0_findLeader T C σ (nI j)))))) (nI j))) := hres_43
        subst hres
        refine lv_iload hx hb dX0_pickForCore_43 (lv_at hl 0 rfl) ?_
        refine lv_iload hx hb dX0_pickForCore_45 (lv_at hl 1 rfl) ?_
        refine lv_iconst (v := 2) hx hb dX0_pickForCore_47 (by decide) ?_
        refine lv_iadd hx hb dX0_pickForCore_48 ?_
        refine lv_icmp_ge (tgt := 84) hx hb dX0_pickForCore_49 (by decide) (fun _ => ?_) (fun h => absurd (lp_out (nI_p2 (2 * j)) (by omega) hi_43) h)
        have hl := lv_sub (l' := [(4, .int (nI (2 * j))), (3, .int (if (f_X0_findLeader T C σ (nI j)) = (-1) then (-1) else (σ.1 2 (ix (f_X0_findLeader T C σ (nI j)))))), (2, .int (f_X0_findLeader T C σ (nI j))), (0, .ref (q 0)), (1, .int (nI j))]) hl [1, 2, 3, 4, 5] rfl
        exact rt_WV hQ hx hb hr hlocks (Eq.subst (motive := fun z => PP 0 E q z H) (show (lp (F_X0_pickForCore_43 T C σ j) 2 (2 * j) (g_X0_releaseTasks T C (sI σ 12 (ix (nI j)) (if (f_X0_findLeader T C σ (nI j)) = (-1) then (-1) else (σ.1 2 (ix (f_X0_findLeader T C σ (nI j)))))) (nI j))) = (g_X0_pickForCore T C σ j) from rfl) hP) hS ⟨Eq.subst (motive := fun z => Inv T C z) (show (lp (F_X0_pickForCore_43 T C σ j) 2 (2 * j) (g_X0_releaseTasks T C (sI σ 12 (ix (nI j)) (if (f_X0_findLeader T C σ (nI j)) = (-1) then (-1) else (σ.1 2 (ix (f_X0_findLeader T C σ (nI j)))))) (nI j))) = (g_X0_pickForCore T C σ j) from rfl) hI, trivial⟩ dX0_pickForCore_84
      | succ n_43 ih_43 =>
        intro i_43 τ_43 ls H locs hi_43 hres_43 hI hl hP hS
        refine lv_iload hx hb dX0_pickForCore_43 (lv_at hl 0 rfl) ?_
        refine lv_iload hx hb dX0_pickForCore_45 (lv_at hl 1 rfl) ?_
        refine lv_iconst (v := 2) hx hb dX0_pickForCore_47 (by decide) ?_
        refine lv_iadd hx hb dX0_pickForCore_48 ?_
        refine lv_icmp_ge (tgt := 84) hx hb dX0_pickForCore_49 (by decide) (fun h => absurd h (lp_in (nI_p2 (2 * j)) (by omega) hi_43)) (fun _ => ?_)
        refine lv_iload_n hx hb dX0_pickForCore_52 rfl (lv_at hl 3 rfl) ?_
        refine lv_iconst (v := -1) hx hb dX0_pickForCore_53 (by decide) ?_
        refine cutG (fun ls H locs st => ∃ y0 : Int32, y0 = (if (f_X0_findLeader T C σ (nI j)) = (-1) then (-1) else (f_X0_takeTask T C τ_43 (nI i_43) (if (f_X0_findLeader T C σ (nI j)) = (-1) then (-1) else (σ.1 2 (ix (f_X0_findLeader T C σ (nI j))))))) ∧ ∃ σ9 : St, σ9 = (if (f_X0_findLeader T C σ (nI j)) = (-1) then τ_43 else (g_X0_takeTask T C τ_43 (nI i_43) (if (f_X0_findLeader T C σ (nI j)) = (-1) then (-1) else (σ.1 2 (ix (f_X0_findLeader T C σ (nI j))))))) ∧ st = [.int y0] ∧ lv_has ls 7 [(5, .int (nI i_43)), (4, .int (nI (2 * j))), (3, .int (if (f_X0_findLeader T C σ (nI j)) = (-1) then (-1) else (σ.1 2 (ix (f_X0_findLeader T C σ (nI j)))))), (2, .int (f_X0_findLeader T C σ (nI j))), (0, .ref (q 0)), (1, .int (nI j))] ∧ PP 0 E q σ9 H ∧ va_S (Aq q) s.heap H locs ∧ Inv T C σ9 ∧ vo y0) 68 (fun ls H locs st hKp => ?_) (fun K54 => ?_)
        · revert hKp
          refine ex_eq (fun hKp => ?_)
          revert hKp; refine ex_eq (fun hKp => ?_)
          obtain ⟨rfl, hl, hP, hS, hI, hv54_y0⟩ := hKp
          refine lv_istore (lv' := [(6, .int (if (f_X0_findLeader T C σ (nI j)) = (-1) then (-1) else (f_X0_takeTask T C τ_43 (nI i_43) (if (f_X0_findLeader T C σ (nI j)) = (-1) then (-1) else (σ.1 2 (ix (f_X0_findLeader T C σ (nI j)))))))), (5, .int (nI i_43)), (4, .int (nI (2 * j))), (3, .int (if (f_X0_findLeader T C σ (nI j)) = (-1) then (-1) else (σ.1 2 (ix (f_X0_findLeader T C σ (nI j)))))), (2, .int (f_X0_findLeader T C σ (nI j))), (0, .ref (q 0)), (1, .int (nI j))]) hx hb dX0_pickForCore_68 hl (by decide) rfl (fun ls hl => ?_)
          refine lv_aload_n hx hb dX0_pickForCore_70 rfl (lv_at hl 5 rfl) ?_
          refine lv_iload hx hb dX0_pickForCore_71 (lv_at hl 1 rfl) ?_
          refine lv_iload hx hb dX0_pickForCore_73 (lv_at hl 0 rfl) ?_
          refine cl_WV (k_X0_giveToCpu l E q hq hT hC (if (f_X0_findLeader T C σ (nI j)) = (-1) then τ_43 else (g_X0_takeTask T C τ_43 (nI i_43) (if (f_X0_findLeader T C σ (nI j)) = (-1) then (-1) else (σ.1 2 (ix (f_X0_findLeader T C σ (nI j))))))) hI (nI i_43) (if (f_X0_findLeader T C σ (nI j)) = (-1) then (-1) else (f_X0_takeTask T C τ_43 (nI i_43) (if (f_X0_findLeader T C σ (nI j)) = (-1) then (-1) else (σ.1 2 (ix (f_X0_findLeader T C σ (nI j))))))) (vp_in_nI (by omega) (by decide)) hv54_y0) gw_X0_182 hd_X0_giveToCpu ⟨rfl, rfl⟩ S0 hK hP hS (rest := []) rfl hl.1 (Nat.le_of_ble_eq_true rfl) ⟨(Nat.le_of_ble_eq_true rfl), (Nat.le_of_ble_eq_true rfl)⟩ ⟨Nat.zero_le _, Nat.zero_le _⟩ dX0_pickForCore_75 (fun H locs hP hS hex => ?_)
          obtain ⟨hI, -⟩ := hex
          refine lv_iinc (v := (nI (i_43 + 1))) (lv' := [(5, .int (nI (i_43 + 1))), (6, .int (if (f_X0_findLeader T C σ (nI j)) = (-1) then (-1) else (f_X0_takeTask T C τ_43 (nI i_43) (if (f_X0_findLeader T C σ (nI j)) = (-1) then (-1) else (σ.1 2 (ix (f_X0_findLeader T C σ (nI j)))))))), (4, .int (nI (2 * j))), (3, .int (if (f_X0_findLeader T C σ (nI j)) = (-1) then (-1) else (σ.1 2 (ix (f_X0_findLeader T C σ (nI j)))))), (2, .int (f_X0_findLeader T C σ (nI j))), (0, .ref (q 0)), (1, .int (nI j))]) hx hb dX0_pickForCore_78 hl (k := 1) rfl (nI_1 _) (by decide) rfl (fun ls hl => ?_)
          refine lv_goto (tgt := 43) hx hb dX0_pickForCore_81 (by decide) ?_
          exact ih_43 (i_43 + 1) (g_X0_giveToCpu T C (if (f_X0_findLeader T C σ (nI j)) = (-1) then τ_43 else (g_X0_takeTask T C τ_43 (nI i_43) (if (f_X0_findLeader T C σ (nI j)) = (-1) then (-1) else (σ.1 2 (ix (f_X0_findLeader T C σ (nI j))))))) (nI i_43) (if (f_X0_findLeader T C σ (nI j)) = (-1) then (-1) else (f_X0_takeTask T C τ_43 (nI i_43) (if (f_X0_findLeader T C σ (nI j)) = (-1) then (-1) else (σ.1 2 (ix (f_X0_findLeader T C σ (nI j)))))))) ls H locs (by omega) hres_43 (Eq.subst (motive := fun z => Inv T C z) (show (g_X0_giveToCpu T C (if (f_X0_findLeader T C σ (nI j)) = (-1) then τ_43 else (g_X0_takeTask T C τ_43 (nI i_43) (if (f_X0_findLeader T C σ (nI j)) = (-1) then (-1) else (σ.1 2 (ix (f_X0_findLeader T C σ (nI j))))))) (nI i_43) (if (f_X0_findLeader T C σ (nI j)) = (-1) then (-1) else (f_X0_takeTask T C τ_43 (nI i_43) (if (f_X0_findLeader T C σ (nI j)) = (-1) then (-1) else (σ.1 2 (ix (f_X0_findLeader T C σ (nI j)))))))) = (g_X0_giveToCpu T C (if (f_X0_findLeader T C σ (nI j)) = (-1) then τ_43 else (g_X0_takeTask T C τ_43 (nI i_43) (if (f_X0_findLeader T C σ (nI j)) = (-1) then (-1) else (σ.1 2 (ix (f_X0_findLeader T C σ (nI j))))))) (nI i_43) (if (f_X0_findLeader T C σ (nI j)) = (-1) then (-1) else (f_X0_takeTask T C τ_43 (nI i_43) (if (f_X0_findLeader T C σ (nI j)) = (-1) then (-1) else (σ.1 2 (ix (f_X0_findLeader T C σ (nI j)))))))) from rfl) hI) (lv_sub (l' := [(5, .int (nI (i_43 + 1))), (4, .int (nI (2 * j))), (3, .int (if (f_X0_findLeader T C σ (nI j)) = (-1) then (-1) else (σ.1 2 (ix (f_X0_findLeader T C σ (nI j)))))), (2, .int (f_X0_findLeader T C σ (nI j))), (0, .ref (q 0)), (1, .int (nI j))]) hl [0, 2, 3, 4, 5, 6] rfl) (Eq.subst (motive := fun z => PP 0 E q z H) (show (g_X0_giveToCpu T C (if (f_X0_findLeader T C σ (nI j)) = (-1) then τ_43 else (g_X0_takeTask T C τ_43 (nI i_43) (if (f_X0_findLeader T C σ (nI j)) = (-1) then (-1) else (σ.1 2 (ix (f_X0_findLeader T C σ (nI j))))))) (nI i_43) (if (f_X0_findLeader T C σ (nI j)) = (-1) then (-1) else (f_X0_takeTask T C τ_43 (nI i_43) (if (f_X0_findLeader T C σ (nI j)) = (-1) then (-1) else (σ.1 2 (ix (f_X0_findLeader T C σ (nI j)))))))) = (g_X0_giveToCpu T C (if (f_X0_findLeader T C σ (nI j)) = (-1) then τ_43 else (g_X0_takeTask T C τ_43 (nI i_43) (if (f_X0_findLeader T C σ (nI j)) = (-1) then (-1) else (σ.1 2 (ix (f_X0_findLeader T C σ (nI j))))))) (nI i_43) (if (f_X0_findLeader T C σ (nI j)) = (-1) then (-1) else (f_X0_takeTask T C τ_43 (nI i_43) (if (f_X0_findLeader T C σ (nI j)) = (-1) then (-1) else (σ.1 2 (ix (f_X0_findLeader T C σ (nI j)))))))) from rfl) hP) hS
        · refine lv_icmp_ne (tgt := 61) hx hb dX0_pickForCore_54 (by decide) (fun h54 => ?_) (fun h54 => ?_)
          · skip
            refine lv_aload_n hx hb dX0_pickForCore_61 rfl (lv_at hl 4 rfl) ?_
            refine lv_iload hx hb dX0_pickForCore_62 (lv_at hl 0 rfl) ?_
            refine lv_iload_n hx hb dX0_pickForCore_64 rfl (lv_at hl 2 rfl) ?_
            refine cl_WI (k_X0_takeTask l E q hq hT hC τ_43 hI (nI i_43) (if (f_X0_findLeader T C σ (nI j)) = (-1) then (-1) else (σ.1 2 (ix (f_X0_findLeader T C σ (nI j))))) (vp_in_nI (by omega) (by decide))) gw_X0_179 hd_X0_takeTask ⟨rfl, rfl⟩ S0 hK hP hS (rest := []) rfl hl.1 (Nat.le_of_ble_eq_true rfl) ⟨(Nat.le_of_ble_eq_true rfl), (Nat.le_of_ble_eq_true rfl)⟩ ⟨Nat.zero_le _, Nat.zero_le _⟩ dX0_pickForCore_65 (fun H locs hP hS hex => ?_)
            obtain ⟨hI, hx65_0, -⟩ := hex
            exact K54 _ _ _ _ ⟨(f_X0_takeTask T C τ_43 (nI i_43) (if (f_X0_findLeader T C σ (nI j)) = (-1) then (-1) else (σ.1 2 (ix (f_X0_findLeader T C σ (nI j)))))), (Eq.symm (if_neg h54)), (g_X0_takeTask T C τ_43 (nI i_43) (if (f_X0_findLeader T C σ (nI j)) = (-1) then (-1) else (σ.1 2 (ix (f_X0_findLeader T C σ (nI j)))))), (Eq.symm (if_neg h54)), rfl, lv_sub hl [0, 1, 2, 3, 4, 5] rfl, hP, hS, hI, hx65_0⟩
          · skip
            refine lv_iconst (v := -1) hx hb dX0_pickForCore_57 (by decide) ?_
            refine lv_goto (tgt := 68) hx hb dX0_pickForCore_58 (by decide) ?_
            exact K54 _ _ _ _ ⟨(-1), (Eq.symm (if_pos h54)), τ_43, (Eq.symm (if_pos h54)), rfl, lv_sub hl [0, 1, 2, 3, 4, 5] rfl, hP, hS, hI, vo_1⟩
    exact L_43 2 (2 * j) (g_X0_releaseTasks T C (sI σ 12 (ix (nI j)) (if (f_X0_findLeader T C σ (nI j)) = (-1) then (-1) else (σ.1 2 (ix (f_X0_findLeader T C σ (nI j)))))) (nI j)) ls H locs rfl rfl hI (lv_sub hl [0, 1, 2, 3, 4, 5] rfl) hP hS
  · refine lv_icmp_ne (tgt := 15) hx hb dX0_pickForCore_8 (by decide) (fun h8 => ?_) (fun h8 => ?_)
    · skip
      refine lv_aload_n hx hb dX0_pickForCore_15 rfl (lv_at hl 1 rfl) ?_
      refine gf_X0_16 hx hb hts hown hK hP dX0_pickForCore_16 ?_
      refine lv_iload_n hx hb dX0_pickForCore_19 rfl (lv_at hl 0 rfl) ?_
      refine ld_2 hx hb hK hP (vo.in hx2_0 h8) dX0_pickForCore_20 ?_
      exact K8 _ _ _ _ ⟨(σ.1 2 (ix (f_X0_findLeader T C σ (nI j)))), (Eq.symm (if_neg h8)), rfl, lv_sub hl [0, 1, 2] rfl, hP, hS, hI⟩
    · skip
      refine lv_iconst (v := -1) hx hb dX0_pickForCore_11 (by decide) ?_
      refine lv_goto (tgt := 21) hx hb dX0_pickForCore_12 (by decide) ?_
      exact K8 _ _ _ _ ⟨(-1), (Eq.symm (if_pos h8)), rfl, lv_sub hl [0, 1, 2] rfl, hP, hS, hI⟩
def F_X0_chargeTasks_4 : Nat → (Int32 × St) → (Int32 × St) := fun i_4 z => ((if ((z.2).1 3 (ix (nI i_4))) = 1 then ((z.1) + 1) else (z.1)), (if ((z.2).1 3 (ix (nI i_4))) = 1 then (sJ (sI (z.2) 5 (ix (nI i_4)) (((z.2).1 5 (ix (nI i_4))) + 1)) 4 (ix (nI i_4)) (((sI (z.2) 5 (ix (nI i_4)) (((z.2).1 5 (ix (nI i_4))) + 1)).2.1 4 (ix (nI i_4))) + (Int32.toInt64 (f_X0_costOfTick ((sI (z.2) 5 (ix (nI i_4)) (((z.2).1 5 (ix (nI i_4))) + 1)).1 1 (ix (nI i_4))))))) else (if ((z.2).1 3 (ix (nI i_4))) = 0 then (sI (z.2) 6 (ix (nI i_4)) (((z.2).1 6 (ix (nI i_4))) + 1)) else (z.2))))
def f_X0_chargeTasks (T C : Nat) (σ : St) : Int32 := ((lp F_X0_chargeTasks_4 T 0 (0, σ)).1)
def g_X0_chargeTasks (T C : Nat) (σ : St) : St := ((lp F_X0_chargeTasks_4 T 0 (0, σ)).2)
def rm_X0_chargeTasks : Room := { frames := 1, cells := 0, slots := 0, locals := 20 }
set_option maxHeartbeats 1600000 in
set_option maxRecDepth 100000 in
theorem k_X0_chargeTasks (l : Launch) (E : Ev) (q : Nat → Nat) (hq : Dq q) {T C : Nat} (hT : T ≤ 16) (hC : 1 ≤ C ∧ C ≤ 4) (σ : St) (hI : Inv T C σ) : WI l 0 E q σ yX0_chargeTasks cX0_chargeTasks 3 (some .int) rm_X0_chargeTasks [] (f_X0_chargeTasks T C σ) (g_X0_chargeTasks T C σ) (Inv T C (g_X0_chargeTasks T C σ) ∧ True) := by
  refine Met.ofB (by decide) (Nat.le_of_ble_eq_true rfl) (fun p e s m args below meth c ls Q B hQ hPK hl => ?_)
  obtain ⟨hx, hb, hml, hr, hlocks, hown, hts⟩ := B
  have S0 : Fx p m c cX0_chargeTasks 3 s args RX0 := ⟨hx, hb, hml, hown, hts⟩
  obtain ⟨hP, hK⟩ := hPK
  suffices KH : ∀ (H : Heap) (locs : List Loc), PP 0 E q σ H → va_S (Aq q) s.heap H locs → W p l e rm_X0_chargeTasks s m args below meth c H locs 0 0 Q (F0 m 0 ls []) from KH s.heap [] hP va_S.rf
  intro H locs hP hS
  have hl : lv_has ls 3 [(0, .ref (q 0))] := hl
  have hI0 := hI
  refine lv_iconst (v := 0) hx hb dX0_chargeTasks_0 (by decide) ?_
  refine lv_istore_n (lv' := [(1, .int 0), (0, .ref (q 0))]) hx hb dX0_chargeTasks_1 rfl hl (by decide) rfl (fun ls hl => ?_)
  refine lv_iconst (v := 0) hx hb dX0_chargeTasks_2 (by decide) ?_
  refine lv_istore_n (lv' := [(2, .int 0), (1, .int 0), (0, .ref (q 0))]) hx hb dX0_chargeTasks_3 rfl hl (by decide) rfl (fun ls hl => ?_)
  have L_4 : ∀ (n_4 i_4 : Nat) (a1_4 : Int32) (τ_4 : St) (ls : Array Slot) (H : Heap) (locs : List Loc), i_4 + n_4 = T → lp F_X0_chargeTasks_4 n_4 i_4 (a1_4, τ_4) = (lp F_X0_chargeTasks_4 T 0 (0, σ)) → Inv T C τ_4 → lv_has ls 3 [(2, .int (nI i_4)), (1, .int a1_4), (0, .ref (q 0))] → PP 0 E q τ_4 H → va_S (Aq q) s.heap H locs → W p l e rm_X0_chargeTasks s m args below meth c H locs 0 0 Q (F0 m 4 ls []) := by
    intro n_4
    induction n_4 with
    | zero =>
      intro i_4 a1_4 τ_4 ls H locs hi_4 hres_4 hI hl hP hS
      have hres : (a1_4, τ_4) = (lp F_X0_chargeTasks_4 T 0 (0, σ)) := hres_4
      have hr0 : a1_4 = ((lp F_X0_chargeTasks_4 T 0 (0, σ)).1) := (congrArg Prod.fst hres)
      have hr1 : τ_4 = ((lp F_X0_chargeTasks_4 T 0 (0, σ)).2) := (congrArg Prod.snd hres)
      clear hres hres_4
      subst hr0
      subst hr1
      refine lv_iload_n hx hb dX0_chargeTasks_4 rfl (lv_at hl 0 rfl) ?_
      refine lv_aload_n hx hb dX0_chargeTasks_5 rfl (lv_at hl 2 rfl) ?_
      refine gf_X0_85 hx hb hts hown hK hP dX0_chargeTasks_6 ?_
      refine lv_icmp_ge (tgt := 82) hx hb dX0_chargeTasks_9 (by decide) (fun _ => ?_) (fun h => absurd (lp_out hI.2.1 (by omega) hi_4) h)
      have hl := lv_sub (l' := [(1, .int ((lp F_X0_chargeTasks_4 T 0 (0, σ)).1)), (0, .ref (q 0))]) hl [1, 2] rfl
      refine lv_iload_n hx hb dX0_chargeTasks_82 rfl (lv_at hl 0 rfl) ?_
      exact rt_WI hQ hx hb hr hlocks (Eq.subst (motive := fun z => PP 0 E q z H) (show ((lp F_X0_chargeTasks_4 T 0 (0, σ)).2) = (g_X0_chargeTasks T C σ) from rfl) hP) hS ⟨rfl, ⟨Eq.subst (motive := fun z => Inv T C z) (show ((lp F_X0_chargeTasks_4 T 0 (0, σ)).2) = (g_X0_chargeTasks T C σ) from rfl) hI, trivial⟩⟩ dX0_chargeTasks_83
    | succ n_4 ih_4 =>
      intro i_4 a1_4 τ_4 ls H locs hi_4 hres_4 hI hl hP hS
      refine lv_iload_n hx hb dX0_chargeTasks_4 rfl (lv_at hl 0 rfl) ?_
      refine lv_aload_n hx hb dX0_chargeTasks_5 rfl (lv_at hl 2 rfl) ?_
      refine gf_X0_85 hx hb hts hown hK hP dX0_chargeTasks_6 ?_
      refine lv_icmp_ge (tgt := 82) hx hb dX0_chargeTasks_9 (by decide) (fun h => absurd h (lp_in hI.2.1 (by omega) hi_4)) (fun _ => ?_)
      refine lv_aload_n hx hb dX0_chargeTasks_12 rfl (lv_at hl 2 rfl) ?_
      refine gf_X0_19 hx hb hts hown hK hP dX0_chargeTasks_13 ?_
      refine lv_iload_n hx hb dX0_chargeTasks_16 rfl (lv_at hl 0 rfl) ?_
      refine ld_3 hx hb hK hP (vp_in_nI (by omega) (by decide)) dX0_chargeTasks_17 ?_
      refine lv_iconst (v := 1) hx hb dX0_chargeTasks_18 (by decide) ?_
      refine cutG (fun ls H locs st => ∃ x1 : Int32, x1 = (if (τ_4.1 3 (ix (nI i_4))) = 1 then (a1_4 + 1) else a1_4) ∧ ∃ σ9 : St, σ9 = (if (τ_4.1 3 (ix (nI i_4))) = 1 then (sJ (sI τ_4 5 (ix (nI i_4)) ((τ_4.1 5 (ix (nI i_4))) + 1)) 4 (ix (nI i_4)) (((sI τ_4 5 (ix (nI i_4)) ((τ_4.1 5 (ix (nI i_4))) + 1)).2.1 4 (ix (nI i_4))) + (Int32.toInt64 (f_X0_costOfTick ((sI τ_4 5 (ix (nI i_4)) ((τ_4.1 5 (ix (nI i_4))) + 1)).1 1 (ix (nI i_4))))))) else (if (τ_4.1 3 (ix (nI i_4))) = 0 then (sI τ_4 6 (ix (nI i_4)) ((τ_4.1 6 (ix (nI i_4))) + 1)) else τ_4)) ∧ st = [] ∧ lv_has ls 3 [(1, .int x1), (2, .int (nI i_4)), (0, .ref (q 0))] ∧ PP 0 E q σ9 H ∧ va_S (Aq q) s.heap H locs ∧ Inv T C σ9) 76 (fun ls H locs st hKp => ?_) (fun K19 => ?_)
      · revert hKp
        refine ex_eq (fun hKp => ?_)
        revert hKp; refine ex_eq (fun hKp => ?_)
        obtain ⟨rfl, hl, hP, hS, hI⟩ := hKp
        refine lv_iinc (v := (nI (i_4 + 1))) (lv' := [(2, .int (nI (i_4 + 1))), (1, .int (if (τ_4.1 3 (ix (nI i_4))) = 1 then (a1_4 + 1) else a1_4)), (0, .ref (q 0))]) hx hb dX0_chargeTasks_76 hl (k := 1) rfl (nI_1 _) (by decide) rfl (fun ls hl => ?_)
        refine lv_goto (tgt := 4) hx hb dX0_chargeTasks_79 (by decide) ?_
        exact ih_4 (i_4 + 1) (if (τ_4.1 3 (ix (nI i_4))) = 1 then (a1_4 + 1) else a1_4) (if (τ_4.1 3 (ix (nI i_4))) = 1 then (sJ (sI τ_4 5 (ix (nI i_4)) ((τ_4.1 5 (ix (nI i_4))) + 1)) 4 (ix (nI i_4)) (((sI τ_4 5 (ix (nI i_4)) ((τ_4.1 5 (ix (nI i_4))) + 1)).2.1 4 (ix (nI i_4))) + (Int32.toInt64 (f_X0_costOfTick ((sI τ_4 5 (ix (nI i_4)) ((τ_4.1 5 (ix (nI i_4))) + 1)).1 1 (ix (nI i_4))))))) else (if (τ_4.1 3 (ix (nI i_4))) = 0 then (sI τ_4 6 (ix (nI i_4)) ((τ_4.1 6 (ix (nI i_4))) + 1)) else τ_4)) ls H locs (by omega) hres_4 (Eq.subst (motive := fun z => Inv T C z) (show (if (τ_4.1 3 (ix (nI i_4))) = 1 then (sJ (sI τ_4 5 (ix (nI i_4)) ((τ_4.1 5 (ix (nI i_4))) + 1)) 4 (ix (nI i_4)) (((sI τ_4 5 (ix (nI i_4)) ((τ_4.1 5 (ix (nI i_4))) + 1)).2.1 4 (ix (nI i_4))) + (Int32.toInt64 (f_X0_costOfTick ((sI τ_4 5 (ix (nI i_4)) ((τ_4.1 5 (ix (nI i_4))) + 1)).1 1 (ix (nI i_4))))))) else (if (τ_4.1 3 (ix (nI i_4))) = 0 then (sI τ_4 6 (ix (nI i_4)) ((τ_4.1 6 (ix (nI i_4))) + 1)) else τ_4)) = (if (τ_4.1 3 (ix (nI i_4))) = 1 then (sJ (sI τ_4 5 (ix (nI i_4)) ((τ_4.1 5 (ix (nI i_4))) + 1)) 4 (ix (nI i_4)) (((sI τ_4 5 (ix (nI i_4)) ((τ_4.1 5 (ix (nI i_4))) + 1)).2.1 4 (ix (nI i_4))) + (Int32.toInt64 (f_X0_costOfTick ((sI τ_4 5 (ix (nI i_4)) ((τ_4.1 5 (ix (nI i_4))) + 1)).1 1 (ix (nI i_4))))))) else (if (τ_4.1 3 (ix (nI i_4))) = 0 then (sI τ_4 6 (ix (nI i_4)) ((τ_4.1 6 (ix (nI i_4))) + 1)) else τ_4)) from rfl) hI) (lv_sub (l' := [(2, .int (nI (i_4 + 1))), (1, .int (if (τ_4.1 3 (ix (nI i_4))) = 1 then (a1_4 + 1) else a1_4)), (0, .ref (q 0))]) hl [0, 1, 2] rfl) (Eq.subst (motive := fun z => PP 0 E q z H) (show (if (τ_4.1 3 (ix (nI i_4))) = 1 then (sJ (sI τ_4 5 (ix (nI i_4)) ((τ_4.1 5 (ix (nI i_4))) + 1)) 4 (ix (nI i_4)) (((sI τ_4 5 (ix (nI i_4)) ((τ_4.1 5 (ix (nI i_4))) + 1)).2.1 4 (ix (nI i_4))) + (Int32.toInt64 (f_X0_costOfTick ((sI τ_4 5 (ix (nI i_4)) ((τ_4.1 5 (ix (nI i_4))) + 1)).1 1 (ix (nI i_4))))))) else (if (τ_4.1 3 (ix (nI i_4))) = 0 then (sI τ_4 6 (ix (nI i_4)) ((τ_4.1 6 (ix (nI i_4))) + 1)) else τ_4)) = (if (τ_4.1 3 (ix (nI i_4))) = 1 then (sJ (sI τ_4 5 (ix (nI i_4)) ((τ_4.1 5 (ix (nI i_4))) + 1)) 4 (ix (nI i_4)) (((sI τ_4 5 (ix (nI i_4)) ((τ_4.1 5 (ix (nI i_4))) + 1)).2.1 4 (ix (nI i_4))) + (Int32.toInt64 (f_X0_costOfTick ((sI τ_4 5 (ix (nI i_4)) ((τ_4.1 5 (ix (nI i_4))) + 1)).1 1 (ix (nI i_4))))))) else (if (τ_4.1 3 (ix (nI i_4))) = 0 then (sI τ_4 6 (ix (nI i_4)) ((τ_4.1 6 (ix (nI i_4))) + 1)) else τ_4)) from rfl) hP) hS
      · refine lv_icmp_ne (tgt := 57) hx hb dX0_chargeTasks_19 (by decide) (fun h19 => ?_) (fun h19 => ?_)
        · skip
          refine lv_aload_n hx hb dX0_chargeTasks_57 rfl (lv_at hl 2 rfl) ?_
          refine gf_X0_19 hx hb hts hown hK hP dX0_chargeTasks_58 ?_
          refine lv_iload_n hx hb dX0_chargeTasks_61 rfl (lv_at hl 0 rfl) ?_
          refine ld_3 hx hb hK hP (vp_in_nI (by omega) (by decide)) dX0_chargeTasks_62 ?_
          refine lv_if_ne (tgt := 76) hx hb dX0_chargeTasks_63 (by decide) (fun h63 => ?_) (fun h63 => ?_)
          · skip
            exact K19 _ _ _ _ ⟨a1_4, (Eq.symm (if_neg h19)), τ_4, (Eq.symm (Eq.trans (if_neg h19) (if_neg h63))), rfl, lv_sub hl [1, 0, 2] rfl, hP, hS, hI⟩
          · skip
            refine lv_aload_n hx hb dX0_chargeTasks_66 rfl (lv_at hl 2 rfl) ?_
            refine gf_X0_29 hx hb hts hown hK hP dX0_chargeTasks_67 ?_
            refine lv_iload_n hx hb dX0_chargeTasks_70 rfl (lv_at hl 0 rfl) ?_
            refine lv_dup2_11 hx hb dX0_chargeTasks_71 rfl rfl ?_
            refine ld_6 hx hb hK hP (vp_in_nI (by omega) (by decide)) dX0_chargeTasks_72 ?_
            refine lv_iconst (v := 1) hx hb dX0_chargeTasks_73 (by decide) ?_
            refine lv_iadd hx hb dX0_chargeTasks_74 ?_
            refine st_6 hx hb hK hq hP hS (vp_in_nI (by omega) (by decide)) dX0_chargeTasks_75 (fun H locs hP hS => ?_)
            have hI : Inv T C (sI τ_4 6 (ix (nI i_4)) ((τ_4.1 6 (ix (nI i_4))) + 1)) := inv_sI (by decide) hI
            exact K19 _ _ _ _ ⟨a1_4, (Eq.symm (if_neg h19)), (sI τ_4 6 (ix (nI i_4)) ((τ_4.1 6 (ix (nI i_4))) + 1)), (Eq.symm (Eq.trans (if_neg h19) (if_pos h63))), rfl, lv_sub hl [1, 0, 2] rfl, hP, hS, hI⟩
        · skip
          refine lv_aload_n hx hb dX0_chargeTasks_22 rfl (lv_at hl 2 rfl) ?_
          refine gf_X0_26 hx hb hts hown hK hP dX0_chargeTasks_23 ?_
          refine lv_iload_n hx hb dX0_chargeTasks_26 rfl (lv_at hl 0 rfl) ?_
          refine lv_dup2_11 hx hb dX0_chargeTasks_27 rfl rfl ?_
          refine ld_5 hx hb hK hP (vp_in_nI (by omega) (by decide)) dX0_chargeTasks_28 ?_
          refine lv_iconst (v := 1) hx hb dX0_chargeTasks_29 (by decide) ?_
          refine lv_iadd hx hb dX0_chargeTasks_30 ?_
          refine st_5 hx hb hK hq hP hS (vp_in_nI (by omega) (by decide)) dX0_chargeTasks_31 (fun H locs hP hS => ?_)
          have hI : Inv T C (sI τ_4 5 (ix (nI i_4)) ((τ_4.1 5 (ix (nI i_4))) + 1)) := inv_sI (by decide) hI
          refine lv_aload_n hx hb dX0_chargeTasks_32 rfl (lv_at hl 2 rfl) ?_
          refine gf_X0_22 hx hb hts hown hK hP dX0_chargeTasks_33 ?_
          refine lv_iload_n hx hb dX0_chargeTasks_36 rfl (lv_at hl 0 rfl) ?_
          refine lv_dup2_11 hx hb dX0_chargeTasks_37 rfl rfl ?_
          refine ld_4 hx hb hK hP (vp_in_nI (by omega) (by decide)) dX0_chargeTasks_38 ?_
          refine lv_aload_n hx hb dX0_chargeTasks_39 rfl (lv_at hl 2 rfl) ?_
          refine gf_X0_13 hx hb hts hown hK hP dX0_chargeTasks_40 ?_
          refine lv_iload_n hx hb dX0_chargeTasks_43 rfl (lv_at hl 0 rfl) ?_
          refine ld_1 hx hb hK hP (vp_in_nI (by omega) (by decide)) dX0_chargeTasks_44 ?_
          refine cl_NI (k_X0_costOfTick l ((sI τ_4 5 (ix (nI i_4)) ((τ_4.1 5 (ix (nI i_4))) + 1)).1 1 (ix (nI i_4)))) gw_X0_210 hd_X0_costOfTick ⟨rfl, rfl⟩ S0 (rest := [.long ((sI τ_4 5 (ix (nI i_4)) ((τ_4.1 5 (ix (nI i_4))) + 1)).2.1 4 (ix (nI i_4))), .int (nI i_4), .ref (q 5)]) rfl hl.1 (Nat.le_of_ble_eq_true rfl) ⟨(Nat.le_of_ble_eq_true rfl), (Nat.le_of_ble_eq_true rfl)⟩ ⟨Nat.zero_le _, Nat.zero_le _⟩ dX0_chargeTasks_45 ?_
          refine lv_i2l (v := Int32.toInt64 (f_X0_costOfTick ((sI τ_4 5 (ix (nI i_4)) ((τ_4.1 5 (ix (nI i_4))) + 1)).1 1 (ix (nI i_4))))) hx hb dX0_chargeTasks_48 rfl ?_
          refine lv_ladd hx hb dX0_chargeTasks_49 ?_
          refine st_4 hx hb hK hq hP hS (vp_in_nI (by omega) (by decide)) dX0_chargeTasks_50 (fun H locs hP hS => ?_)
          have hI : Inv T C (sJ (sI τ_4 5 (ix (nI i_4)) ((τ_4.1 5 (ix (nI i_4))) + 1)) 4 (ix (nI i_4)) (((sI τ_4 5 (ix (nI i_4)) ((τ_4.1 5 (ix (nI i_4))) + 1)).2.1 4 (ix (nI i_4))) + (Int32.toInt64 (f_X0_costOfTick ((sI τ_4 5 (ix (nI i_4)) ((τ_4.1 5 (ix (nI i_4))) + 1)).1 1 (ix (nI i_4))))))) := inv_sJ hI
          refine lv_iinc (v := (a1_4 + 1)) (lv' := [(1, .int (a1_4 + 1)), (2, .int (nI i_4)), (0, .ref (q 0))]) hx hb dX0_chargeTasks_51 hl (k := 1) rfl rfl (by decide) rfl (fun ls hl => ?_)
          refine lv_goto (tgt := 76) hx hb dX0_chargeTasks_54 (by decide) ?_
          exact K19 _ _ _ _ ⟨(a1_4 + 1), (Eq.symm (if_pos h19)), (sJ (sI τ_4 5 (ix (nI i_4)) ((τ_4.1 5 (ix (nI i_4))) + 1)) 4 (ix (nI i_4)) (((sI τ_4 5 (ix (nI i_4)) ((τ_4.1 5 (ix (nI i_4))) + 1)).2.1 4 (ix (nI i_4))) + (Int32.toInt64 (f_X0_costOfTick ((sI τ_4 5 (ix (nI i_4)) ((τ_4.1 5 (ix (nI i_4))) + 1)).1 1 (ix (nI i_4))))))), (Eq.symm (if_pos h19)), rfl, lv_sub hl [0, 1, 2] rfl, hP, hS, hI⟩
  exact L_4 T 0 0 σ ls H locs (Nat.zero_add T) rfl hI (lv_sub hl [0, 1, 2] rfl) hP hS
def F_X0_countIdleCpus_2 : Nat → St → St := fun i_2 z => (if (z.1 8 (ix (nI i_2))) = (-1) then (if (z.1 9 (ix (nI i_2))) = 0 then (sI z 10 (ix (nI i_2)) ((z.1 10 (ix (nI i_2))) + 1)) else (sI z 11 (ix (nI i_2)) ((z.1 11 (ix (nI i_2))) + 1))) else z)
def g_X0_countIdleCpus (T C : Nat) (σ : St) : St := (lp F_X0_countIdleCpus_2 (2 * C) 0 σ)
def rm_X0_countIdleCpus : Room := { frames := 1, cells := 0, slots := 0, locals := 20 }
set_option maxHeartbeats 1600000 in
set_option maxRecDepth 100000 in
theorem k_X0_countIdleCpus (l : Launch) (E : Ev) (q : Nat → Nat) (hq : Dq q) {T C : Nat} (hT : T ≤ 16) (hC : 1 ≤ C ∧ C ≤ 4) (σ : St) (hI : Inv T C σ) : WV l 0 E q σ yX0_countIdleCpus cX0_countIdleCpus 2 none rm_X0_countIdleCpus [] (g_X0_countIdleCpus T C σ) (Inv T C (g_X0_countIdleCpus T C σ) ∧ True) := by
  refine Met.ofB (by decide) (Nat.le_of_ble_eq_true rfl) (fun p e s m args below meth c ls Q B hQ hPK hl => ?_)
  obtain ⟨hx, hb, hml, hr, hlocks, hown, hts⟩ := B
  have S0 : Fx p m c cX0_countIdleCpus 2 s args RX0 := ⟨hx, hb, hml, hown, hts⟩
  obtain ⟨hP, hK⟩ := hPK
  suffices KH : ∀ (H : Heap) (locs : List Loc), PP 0 E q σ H → va_S (Aq q) s.heap H locs → W p l e rm_X0_countIdleCpus s m args below meth c H locs 0 0 Q (F0 m 0 ls []) from KH s.heap [] hP va_S.rf
  intro H locs hP hS
  have hl : lv_has ls 2 [(0, .ref (q 0))] := hl
  have hI0 := hI
  refine lv_iconst (v := 0) hx hb dX0_countIdleCpus_0 (by decide) ?_
  refine lv_istore_n (lv' := [(1, .int 0), (0, .ref (q 0))]) hx hb dX0_countIdleCpus_1 rfl hl (by decide) rfl (fun ls hl => ?_)
  have L_2 : ∀ (n_2 i_2 : Nat) (τ_2 : St) (ls : Array Slot) (H : Heap) (locs : List Loc), i_2 + n_2 = (2 * C) → lp F_X0_countIdleCpus_2 n_2 i_2 τ_2 = (lp F_X0_countIdleCpus_2 (2 * C) 0 σ) → Inv T C τ_2 → lv_has ls 2 [(1, .int (nI i_2)), (0, .ref (q 0))] → PP 0 E q τ_2 H → va_S (Aq q) s.heap H locs → W p l e rm_X0_countIdleCpus s m args below meth c H locs 0 0 Q (F0 m 2 ls []) := by
    intro n_2
    induction n_2 with
    | zero =>
      intro i_2 τ_2 ls H locs hi_2 hres_2 hI hl hP hS
      have hres : τ_2 = (lp F_X0_countIdleCpus_2 (2 * C) 0 σ) := hres_2
      subst hres
      refine lv_iload_n hx hb dX0_countIdleCpus_2 rfl (lv_at hl 0 rfl) ?_
      refine lv_aload_n hx hb dX0_countIdleCpus_3 rfl (lv_at hl 1 rfl) ?_
      refine cl_RI (k_X0_cpuTotal l E q hq hT hC (lp F_X0_countIdleCpus_2 (2 * C) 0 σ) hI ) gw_X0_147 hd_X0_cpuTotal ⟨rfl, rfl⟩ S0 hK hP (rest := [.int (nI i_2)]) rfl hl.1 (Nat.le_of_ble_eq_true rfl) ⟨(Nat.le_of_ble_eq_true rfl), (Nat.le_of_ble_eq_true rfl)⟩ ⟨Nat.zero_le _, Nat.zero_le _⟩ dX0_countIdleCpus_4 (fun hex => ?_)
      refine lv_icmp_ge (tgt := 61) hx hb dX0_countIdleCpus_7 (by decide) (fun _ => ?_) (fun h => absurd (lp_out (show f_X0_cpuTotal T C _ = nI (2 * C) from cpuT hI) (by omega) hi_2) h)
      have hl := lv_sub (l' := [(0, .ref (q 0))]) hl [1] rfl
      exact rt_WV hQ hx hb hr hlocks (Eq.subst (motive := fun z => PP 0 E q z H) (show (lp F_X0_countIdleCpus_2 (2 * C) 0 σ) = (g_X0_countIdleCpus T C σ) from rfl) hP) hS ⟨Eq.subst (motive := fun z => Inv T C z) (show (lp F_X0_countIdleCpus_2 (2 * C) 0 σ) = (g_X0_countIdleCpus T C σ) from rfl) hI, trivial⟩ dX0_countIdleCpus_61
    | succ n_2 ih_2 =>
      intro i_2 τ_2 ls H locs hi_2 hres_2 hI hl hP hS
      refine lv_iload_n hx hb dX0_countIdleCpus_2 rfl (lv_at hl 0 rfl) ?_
      refine lv_aload_n hx hb dX0_countIdleCpus_3 rfl (lv_at hl 1 rfl) ?_
      refine cl_RI (k_X0_cpuTotal l E q hq hT hC τ_2 hI ) gw_X0_147 hd_X0_cpuTotal ⟨rfl, rfl⟩ S0 hK hP (rest := [.int (nI i_2)]) rfl hl.1 (Nat.le_of_ble_eq_true rfl) ⟨(Nat.le_of_ble_eq_true rfl), (Nat.le_of_ble_eq_true rfl)⟩ ⟨Nat.zero_le _, Nat.zero_le _⟩ dX0_countIdleCpus_4 (fun hex => ?_)
      refine lv_icmp_ge (tgt := 61) hx hb dX0_countIdleCpus_7 (by decide) (fun h => absurd h (lp_in (show f_X0_cpuTotal T C _ = nI (2 * C) from cpuT hI) (by omega) hi_2)) (fun _ => ?_)
      refine lv_aload_n hx hb dX0_countIdleCpus_10 rfl (lv_at hl 1 rfl) ?_
      refine gf_X0_35 hx hb hts hown hK hP dX0_countIdleCpus_11 ?_
      refine lv_iload_n hx hb dX0_countIdleCpus_14 rfl (lv_at hl 0 rfl) ?_
      refine ld_8 hx hb hK hP (vp_in_nI (by omega) (by decide)) dX0_countIdleCpus_15 ?_
      refine lv_iconst (v := -1) hx hb dX0_countIdleCpus_16 (by decide) ?_
      refine cutG (fun ls H locs st => ∃ σ9 : St, σ9 = (if (τ_2.1 8 (ix (nI i_2))) = (-1) then (if (τ_2.1 9 (ix (nI i_2))) = 0 then (sI τ_2 10 (ix (nI i_2)) ((τ_2.1 10 (ix (nI i_2))) + 1)) else (sI τ_2 11 (ix (nI i_2)) ((τ_2.1 11 (ix (nI i_2))) + 1))) else τ_2) ∧ st = [] ∧ lv_has ls 2 [(1, .int (nI i_2)), (0, .ref (q 0))] ∧ PP 0 E q σ9 H ∧ va_S (Aq q) s.heap H locs ∧ Inv T C σ9) 55 (fun ls H locs st hKp => ?_) (fun K17 => ?_)
      · revert hKp
        refine ex_eq (fun hKp => ?_)
        obtain ⟨rfl, hl, hP, hS, hI⟩ := hKp
        refine lv_iinc (v := (nI (i_2 + 1))) (lv' := [(1, .int (nI (i_2 + 1))), (0, .ref (q 0))]) hx hb dX0_countIdleCpus_55 hl (k := 0) rfl (nI_1 _) (by decide) rfl (fun ls hl => ?_)
        refine lv_goto (tgt := 2) hx hb dX0_countIdleCpus_58 (by decide) ?_
        exact ih_2 (i_2 + 1) (if (τ_2.1 8 (ix (nI i_2))) = (-1) then (if (τ_2.1 9 (ix (nI i_2))) = 0 then (sI τ_2 10 (ix (nI i_2)) ((τ_2.1 10 (ix (nI i_2))) + 1)) else (sI τ_2 11 (ix (nI i_2)) ((τ_2.1 11 (ix (nI i_2))) + 1))) else τ_2) ls H locs (by omega) hres_2 (Eq.subst (motive := fun z => Inv T C z) (show (if (τ_2.1 8 (ix (nI i_2))) = (-1) then (if (τ_2.1 9 (ix (nI i_2))) = 0 then (sI τ_2 10 (ix (nI i_2)) ((τ_2.1 10 (ix (nI i_2))) + 1)) else (sI τ_2 11 (ix (nI i_2)) ((τ_2.1 11 (ix (nI i_2))) + 1))) else τ_2) = (if (τ_2.1 8 (ix (nI i_2))) = (-1) then (if (τ_2.1 9 (ix (nI i_2))) = 0 then (sI τ_2 10 (ix (nI i_2)) ((τ_2.1 10 (ix (nI i_2))) + 1)) else (sI τ_2 11 (ix (nI i_2)) ((τ_2.1 11 (ix (nI i_2))) + 1))) else τ_2) from rfl) hI) (lv_sub (l' := [(1, .int (nI (i_2 + 1))), (0, .ref (q 0))]) hl [0, 1] rfl) (Eq.subst (motive := fun z => PP 0 E q z H) (show (if (τ_2.1 8 (ix (nI i_2))) = (-1) then (if (τ_2.1 9 (ix (nI i_2))) = 0 then (sI τ_2 10 (ix (nI i_2)) ((τ_2.1 10 (ix (nI i_2))) + 1)) else (sI τ_2 11 (ix (nI i_2)) ((τ_2.1 11 (ix (nI i_2))) + 1))) else τ_2) = (if (τ_2.1 8 (ix (nI i_2))) = (-1) then (if (τ_2.1 9 (ix (nI i_2))) = 0 then (sI τ_2 10 (ix (nI i_2)) ((τ_2.1 10 (ix (nI i_2))) + 1)) else (sI τ_2 11 (ix (nI i_2)) ((τ_2.1 11 (ix (nI i_2))) + 1))) else τ_2) from rfl) hP) hS
      · refine lv_icmp_eq (tgt := 23) hx hb dX0_countIdleCpus_17 (by decide) (fun h17 => ?_) (fun h17 => ?_)
        · skip
          refine lv_aload_n hx hb dX0_countIdleCpus_23 rfl (lv_at hl 1 rfl) ?_
          refine gf_X0_38 hx hb hts hown hK hP dX0_countIdleCpus_24 ?_
          refine lv_iload_n hx hb dX0_countIdleCpus_27 rfl (lv_at hl 0 rfl) ?_
          refine ld_9 hx hb hK hP (vp_in_nI (by omega) (by decide)) dX0_countIdleCpus_28 ?_
          refine lv_if_eq (tgt := 45) hx hb dX0_countIdleCpus_29 (by decide) (fun h29 => ?_) (fun h29 => ?_)
          · skip
            refine lv_aload_n hx hb dX0_countIdleCpus_45 rfl (lv_at hl 1 rfl) ?_
            refine gf_X0_42 hx hb hts hown hK hP dX0_countIdleCpus_46 ?_
            refine lv_iload_n hx hb dX0_countIdleCpus_49 rfl (lv_at hl 0 rfl) ?_
            refine lv_dup2_11 hx hb dX0_countIdleCpus_50 rfl rfl ?_
            refine ld_10 hx hb hK hP (vp_in_nI (by omega) (by decide)) dX0_countIdleCpus_51 ?_
            refine lv_iconst (v := 1) hx hb dX0_countIdleCpus_52 (by decide) ?_
            refine lv_iadd hx hb dX0_countIdleCpus_53 ?_
            refine st_10 hx hb hK hq hP hS (vp_in_nI (by omega) (by decide)) dX0_countIdleCpus_54 (fun H locs hP hS => ?_)
            have hI : Inv T C (sI τ_2 10 (ix (nI i_2)) ((τ_2.1 10 (ix (nI i_2))) + 1)) := inv_sI (by decide) hI
            exact K17 _ _ _ _ ⟨(sI τ_2 10 (ix (nI i_2)) ((τ_2.1 10 (ix (nI i_2))) + 1)), (Eq.symm (Eq.trans (if_pos h17) (if_pos h29))), rfl, lv_sub hl [0, 1] rfl, hP, hS, hI⟩
          · skip
            refine lv_aload_n hx hb dX0_countIdleCpus_32 rfl (lv_at hl 1 rfl) ?_
            refine gf_X0_45 hx hb hts hown hK hP dX0_countIdleCpus_33 ?_
            refine lv_iload_n hx hb dX0_countIdleCpus_36 rfl (lv_at hl 0 rfl) ?_
            refine lv_dup2_11 hx hb dX0_countIdleCpus_37 rfl rfl ?_
            refine ld_11 hx hb hK hP (vp_in_nI (by omega) (by decide)) dX0_countIdleCpus_38 ?_
            refine lv_iconst (v := 1) hx hb dX0_countIdleCpus_39 (by decide) ?_
            refine lv_iadd hx hb dX0_countIdleCpus_40 ?_
            refine st_11 hx hb hK hq hP hS (vp_in_nI (by omega) (by decide)) dX0_countIdleCpus_41 (fun H locs hP hS => ?_)
            have hI : Inv T C (sI τ_2 11 (ix (nI i_2)) ((τ_2.1 11 (ix (nI i_2))) + 1)) := inv_sI (by decide) hI
            refine lv_goto (tgt := 55) hx hb dX0_countIdleCpus_42 (by decide) ?_
            exact K17 _ _ _ _ ⟨(sI τ_2 11 (ix (nI i_2)) ((τ_2.1 11 (ix (nI i_2))) + 1)), (Eq.symm (Eq.trans (if_pos h17) (if_neg h29))), rfl, lv_sub hl [0, 1] rfl, hP, hS, hI⟩
        · skip
          refine lv_goto (tgt := 55) hx hb dX0_countIdleCpus_20 (by decide) ?_
          exact K17 _ _ _ _ ⟨τ_2, (Eq.symm (if_neg h17)), rfl, lv_sub hl [0, 1] rfl, hP, hS, hI⟩
  exact L_2 (2 * C) 0 σ ls H locs (Nat.zero_add _) rfl hI (lv_sub hl [0, 1] rfl) hP hS
def F_X0_raiseBases_2 (T : Nat) (C : Nat) : Nat → St → St := fun i_2 z => (if (f_X0_findLeastTime T C z (nI i_2)) = (-1) then z else (sJ z 7 (ix (nI i_2)) (if (z.2.1 4 (ix (f_X0_findLeastTime T C z (nI i_2)))) < (z.2.1 7 (ix (nI i_2))) then (z.2.1 7 (ix (nI i_2))) else (z.2.1 4 (ix (f_X0_findLeastTime T C z (nI i_2)))))))
def g_X0_raiseBases (T C : Nat) (σ : St) : St := (lp (F_X0_raiseBases_2 T C) (2 * C) 0 σ)
def rm_X0_raiseBases : Room := { frames := 3, cells := 0, slots := 0, locals := 66 }
set_option maxHeartbeats 1600000 in
set_option maxRecDepth 100000 in
theorem k_X0_raiseBases (l : Launch) (E : Ev) (q : Nat → Nat) (hq : Dq q) {T C : Nat} (hT : T ≤ 16) (hC : 1 ≤ C ∧ C ≤ 4) (σ : St) (hI : Inv T C σ) : WV l 0 E q σ yX0_raiseBases cX0_raiseBases 3 none rm_X0_raiseBases [] (g_X0_raiseBases T C σ) (Inv T C (g_X0_raiseBases T C σ) ∧ True) := by
  refine Met.ofB (by decide) (Nat.le_of_ble_eq_true rfl) (fun p e s m args below meth c ls Q B hQ hPK hl => ?_)
  obtain ⟨hx, hb, hml, hr, hlocks, hown, hts⟩ := B
  have S0 : Fx p m c cX0_raiseBases 3 s args RX0 := ⟨hx, hb, hml, hown, hts⟩
  obtain ⟨hP, hK⟩ := hPK
  suffices KH : ∀ (H : Heap) (locs : List Loc), PP 0 E q σ H → va_S (Aq q) s.heap H locs → W p l e rm_X0_raiseBases s m args below meth c H locs 0 0 Q (F0 m 0 ls []) from KH s.heap [] hP va_S.rf
  intro H locs hP hS
  have hl : lv_has ls 3 [(0, .ref (q 0))] := hl
  have hI0 := hI
  refine lv_iconst (v := 0) hx hb dX0_raiseBases_0 (by decide) ?_
  refine lv_istore_n (lv' := [(1, .int 0), (0, .ref (q 0))]) hx hb dX0_raiseBases_1 rfl hl (by decide) rfl (fun ls hl => ?_)
  have L_2 : ∀ (n_2 i_2 : Nat) (τ_2 : St) (ls : Array Slot) (H : Heap) (locs : List Loc), i_2 + n_2 = (2 * C) → lp (F_X0_raiseBases_2 T C) n_2 i_2 τ_2 = (lp (F_X0_raiseBases_2 T C) (2 * C) 0 σ) → Inv T C τ_2 → lv_has ls 3 [(1, .int (nI i_2)), (0, .ref (q 0))] → PP 0 E q τ_2 H → va_S (Aq q) s.heap H locs → W p l e rm_X0_raiseBases s m args below meth c H locs 0 0 Q (F0 m 2 ls []) := by
    intro n_2
    induction n_2 with
    | zero =>
      intro i_2 τ_2 ls H locs hi_2 hres_2 hI hl hP hS
      have hres : τ_2 = (lp (F_X0_raiseBases_2 T C) (2 * C) 0 σ) := hres_2
      subst hres
      refine lv_iload_n hx hb dX0_raiseBases_2 rfl (lv_at hl 0 rfl) ?_
      refine lv_aload_n hx hb dX0_raiseBases_3 rfl (lv_at hl 1 rfl) ?_
      refine cl_RI (k_X0_cpuTotal l E q hq hT hC (lp (F_X0_raiseBases_2 T C) (2 * C) 0 σ) hI ) gw_X0_147 hd_X0_cpuTotal ⟨rfl, rfl⟩ S0 hK hP (rest := [.int (nI i_2)]) rfl hl.1 (Nat.le_of_ble_eq_true rfl) ⟨(Nat.le_of_ble_eq_true rfl), (Nat.le_of_ble_eq_true rfl)⟩ ⟨Nat.zero_le _, Nat.zero_le _⟩ dX0_raiseBases_4 (fun hex => ?_)
      refine lv_icmp_ge (tgt := 48) hx hb dX0_raiseBases_7 (by decide) (fun _ => ?_) (fun h => absurd (lp_out (show f_X0_cpuTotal T C _ = nI (2 * C) from cpuT hI) (by omega) hi_2) h)
      have hl := lv_sub (l' := [(0, .ref (q 0))]) hl [1] rfl
      exact rt_WV hQ hx hb hr hlocks (Eq.subst (motive := fun z => PP 0 E q z H) (show (lp (F_X0_raiseBases_2 T C) (2 * C) 0 σ) = (g_X0_raiseBases T C σ) from rfl) hP) hS ⟨Eq.subst (motive := fun z => Inv T C z) (show (lp (F_X0_raiseBases_2 T C) (2 * C) 0 σ) = (g_X0_raiseBases T C σ) from rfl) hI, trivial⟩ dX0_raiseBases_48
    | succ n_2 ih_2 =>
      intro i_2 τ_2 ls H locs hi_2 hres_2 hI hl hP hS
      refine lv_iload_n hx hb dX0_raiseBases_2 rfl (lv_at hl 0 rfl) ?_
      refine lv_aload_n hx hb dX0_raiseBases_3 rfl (lv_at hl 1 rfl) ?_
      refine cl_RI (k_X0_cpuTotal l E q hq hT hC τ_2 hI ) gw_X0_147 hd_X0_cpuTotal ⟨rfl, rfl⟩ S0 hK hP (rest := [.int (nI i_2)]) rfl hl.1 (Nat.le_of_ble_eq_true rfl) ⟨(Nat.le_of_ble_eq_true rfl), (Nat.le_of_ble_eq_true rfl)⟩ ⟨Nat.zero_le _, Nat.zero_le _⟩ dX0_raiseBases_4 (fun hex => ?_)
      refine lv_icmp_ge (tgt := 48) hx hb dX0_raiseBases_7 (by decide) (fun h => absurd h (lp_in (show f_X0_cpuTotal T C _ = nI (2 * C) from cpuT hI) (by omega) hi_2)) (fun _ => ?_)
      refine lv_aload_n hx hb dX0_raiseBases_10 rfl (lv_at hl 1 rfl) ?_
      refine lv_iload_n hx hb dX0_raiseBases_11 rfl (lv_at hl 0 rfl) ?_
      refine cl_RI (k_X0_findLeastTime l E q hq hT hC τ_2 hI (nI i_2) ) gw_X0_213 hd_X0_findLeastTime ⟨rfl, rfl⟩ S0 hK hP (rest := []) rfl hl.1 (Nat.le_of_ble_eq_true rfl) ⟨(Nat.le_of_ble_eq_true rfl), (Nat.le_of_ble_eq_true rfl)⟩ ⟨Nat.zero_le _, Nat.zero_le _⟩ dX0_raiseBases_12 (fun hex => ?_)
      obtain ⟨hx12_0, -⟩ := hex
      refine lv_istore_n (lv' := [(2, .int (f_X0_findLeastTime T C τ_2 (nI i_2))), (1, .int (nI i_2)), (0, .ref (q 0))]) hx hb dX0_raiseBases_15 rfl hl (by decide) rfl (fun ls hl => ?_)
      refine lv_iload_n hx hb dX0_raiseBases_16 rfl (lv_at hl 0 rfl) ?_
      refine lv_iconst (v := -1) hx hb dX0_raiseBases_17 (by decide) ?_
      refine cutG (fun ls H locs st => ∃ σ9 : St, σ9 = (if (f_X0_findLeastTime T C τ_2 (nI i_2)) = (-1) then τ_2 else (sJ τ_2 7 (ix (nI i_2)) (if (τ_2.2.1 4 (ix (f_X0_findLeastTime T C τ_2 (nI i_2)))) < (τ_2.2.1 7 (ix (nI i_2))) then (τ_2.2.1 7 (ix (nI i_2))) else (τ_2.2.1 4 (ix (f_X0_findLeastTime T C τ_2 (nI i_2))))))) ∧ st = [] ∧ lv_has ls 3 [(2, .int (f_X0_findLeastTime T C τ_2 (nI i_2))), (1, .int (nI i_2)), (0, .ref (q 0))] ∧ PP 0 E q σ9 H ∧ va_S (Aq q) s.heap H locs ∧ Inv T C σ9) 42 (fun ls H locs st hKp => ?_) (fun K18 => ?_)
      · revert hKp
        refine ex_eq (fun hKp => ?_)
        obtain ⟨rfl, hl, hP, hS, hI⟩ := hKp
        refine lv_iinc (v := (nI (i_2 + 1))) (lv' := [(1, .int (nI (i_2 + 1))), (2, .int (f_X0_findLeastTime T C τ_2 (nI i_2))), (0, .ref (q 0))]) hx hb dX0_raiseBases_42 hl (k := 1) rfl (nI_1 _) (by decide) rfl (fun ls hl => ?_)
        refine lv_goto (tgt := 2) hx hb dX0_raiseBases_45 (by decide) ?_
        exact ih_2 (i_2 + 1) (if (f_X0_findLeastTime T C τ_2 (nI i_2)) = (-1) then τ_2 else (sJ τ_2 7 (ix (nI i_2)) (if (τ_2.2.1 4 (ix (f_X0_findLeastTime T C τ_2 (nI i_2)))) < (τ_2.2.1 7 (ix (nI i_2))) then (τ_2.2.1 7 (ix (nI i_2))) else (τ_2.2.1 4 (ix (f_X0_findLeastTime T C τ_2 (nI i_2))))))) ls H locs (by omega) hres_2 (Eq.subst (motive := fun z => Inv T C z) (show (if (f_X0_findLeastTime T C τ_2 (nI i_2)) = (-1) then τ_2 else (sJ τ_2 7 (ix (nI i_2)) (if (τ_2.2.1 4 (ix (f_X0_findLeastTime T C τ_2 (nI i_2)))) < (τ_2.2.1 7 (ix (nI i_2))) then (τ_2.2.1 7 (ix (nI i_2))) else (τ_2.2.1 4 (ix (f_X0_findLeastTime T C τ_2 (nI i_2))))))) = (if (f_X0_findLeastTime T C τ_2 (nI i_2)) = (-1) then τ_2 else (sJ τ_2 7 (ix (nI i_2)) (if (τ_2.2.1 4 (ix (f_X0_findLeastTime T C τ_2 (nI i_2)))) < (τ_2.2.1 7 (ix (nI i_2))) then (τ_2.2.1 7 (ix (nI i_2))) else (τ_2.2.1 4 (ix (f_X0_findLeastTime T C τ_2 (nI i_2))))))) from rfl) hI) (lv_sub (l' := [(1, .int (nI (i_2 + 1))), (0, .ref (q 0))]) hl [0, 2] rfl) (Eq.subst (motive := fun z => PP 0 E q z H) (show (if (f_X0_findLeastTime T C τ_2 (nI i_2)) = (-1) then τ_2 else (sJ τ_2 7 (ix (nI i_2)) (if (τ_2.2.1 4 (ix (f_X0_findLeastTime T C τ_2 (nI i_2)))) < (τ_2.2.1 7 (ix (nI i_2))) then (τ_2.2.1 7 (ix (nI i_2))) else (τ_2.2.1 4 (ix (f_X0_findLeastTime T C τ_2 (nI i_2))))))) = (if (f_X0_findLeastTime T C τ_2 (nI i_2)) = (-1) then τ_2 else (sJ τ_2 7 (ix (nI i_2)) (if (τ_2.2.1 4 (ix (f_X0_findLeastTime T C τ_2 (nI i_2)))) < (τ_2.2.1 7 (ix (nI i_2))) then (τ_2.2.1 7 (ix (nI i_2))) else (τ_2.2.1 4 (ix (f_X0_findLeastTime T C τ_2 (nI i_2))))))) from rfl) hP) hS
      · refine lv_icmp_eq (tgt := 42) hx hb dX0_raiseBases_18 (by decide) (fun h18 => ?_) (fun h18 => ?_)
        · skip
          exact K18 _ _ _ _ ⟨τ_2, (Eq.symm (if_pos h18)), rfl, lv_sub hl [0, 1, 2] rfl, hP, hS, hI⟩
        · skip
          refine lv_aload_n hx hb dX0_raiseBases_21 rfl (lv_at hl 2 rfl) ?_
          refine gf_X0_32 hx hb hts hown hK hP dX0_raiseBases_22 ?_
          refine lv_iload_n hx hb dX0_raiseBases_25 rfl (lv_at hl 1 rfl) ?_
          refine lv_aload_n hx hb dX0_raiseBases_26 rfl (lv_at hl 2 rfl) ?_
          refine gf_X0_32 hx hb hts hown hK hP dX0_raiseBases_27 ?_
          refine lv_iload_n hx hb dX0_raiseBases_30 rfl (lv_at hl 1 rfl) ?_
          refine ld_7 hx hb hK hP (vp_in_nI (by omega) (by decide)) dX0_raiseBases_31 ?_
          refine lv_aload_n hx hb dX0_raiseBases_32 rfl (lv_at hl 2 rfl) ?_
          refine gf_X0_22 hx hb hts hown hK hP dX0_raiseBases_33 ?_
          refine lv_iload_n hx hb dX0_raiseBases_36 rfl (lv_at hl 0 rfl) ?_
          refine ld_4 hx hb hK hP (vo.in hx12_0 h18) dX0_raiseBases_37 ?_
          refine mmx hx hb (hml.trans hl.1.symm) hown hts (Nat.le_of_ble_eq_true rfl) (Nat.le_of_ble_eq_true rfl) ⟨Nat.zero_le _, Nat.zero_le _⟩ dX0_raiseBases_38 ?_
          refine st_7 hx hb hK hq hP hS (vp_in_nI (by omega) (by decide)) dX0_raiseBases_41 (fun H locs hP hS => ?_)
          have hI : Inv T C (sJ τ_2 7 (ix (nI i_2)) (if (τ_2.2.1 4 (ix (f_X0_findLeastTime T C τ_2 (nI i_2)))) < (τ_2.2.1 7 (ix (nI i_2))) then (τ_2.2.1 7 (ix (nI i_2))) else (τ_2.2.1 4 (ix (f_X0_findLeastTime T C τ_2 (nI i_2)))))) := inv_sJ hI
          exact K18 _ _ _ _ ⟨(sJ τ_2 7 (ix (nI i_2)) (if (τ_2.2.1 4 (ix (f_X0_findLeastTime T C τ_2 (nI i_2)))) < (τ_2.2.1 7 (ix (nI i_2))) then (τ_2.2.1 7 (ix (nI i_2))) else (τ_2.2.1 4 (ix (f_X0_findLeastTime T C τ_2 (nI i_2)))))), (Eq.symm (if_neg h18)), rfl, lv_sub hl [0, 1, 2] rfl, hP, hS, hI⟩
  exact L_2 (2 * C) 0 σ ls H locs (Nat.zero_add _) rfl hI (lv_sub hl [0, 1] rfl) hP hS
def F_X0_simulateTick_2 (T : Nat) (C : Nat) : Nat → St → St := fun i_2 z => (g_X0_pickForCore T C z i_2)
def f_X0_simulateTick (T C : Nat) (σ : St) : Int32 := (f_X0_chargeTasks T C (lp (F_X0_simulateTick_2 T C) C 0 σ))
def g_X0_simulateTick (T C : Nat) (σ : St) : St := (g_X0_raiseBases T C (g_X0_countIdleCpus T C (g_X0_chargeTasks T C (lp (F_X0_simulateTick_2 T C) C 0 σ))))
def rm_X0_simulateTick : Room := { frames := 6, cells := 0, slots := 0, locals := 139 }
set_option maxHeartbeats 1600000 in
set_option maxRecDepth 100000 in
theorem k_X0_simulateTick (l : Launch) (E : Ev) (q : Nat → Nat) (hq : Dq q) {T C : Nat} (hT : T ≤ 16) (hC : 1 ≤ C ∧ C ≤ 4) (σ : St) (hI : Inv T C σ) : WI l 0 E q σ yX0_simulateTick cX0_simulateTick 2 (some .int) rm_X0_simulateTick [] (f_X0_simulateTick T C σ) (g_X0_simulateTick T C σ) (Inv T C (g_X0_simulateTick T C σ) ∧ True) := by
  refine Met.ofB (by decide) (Nat.le_of_ble_eq_true rfl) (fun p e s m args below meth c ls Q B hQ hPK hl => ?_)
  obtain ⟨hx, hb, hml, hr, hlocks, hown, hts⟩ := B
  have S0 : Fx p m c cX0_simulateTick 2 s args RX0 := ⟨hx, hb, hml, hown, hts⟩
  obtain ⟨hP, hK⟩ := hPK
  suffices KH : ∀ (H : Heap) (locs : List Loc), PP 0 E q σ H → va_S (Aq q) s.heap H locs → W p l e rm_X0_simulateTick s m args below meth c H locs 0 0 Q (F0 m 0 ls []) from KH s.heap [] hP va_S.rf
  intro H locs hP hS
  have hl : lv_has ls 2 [(0, .ref (q 0))] := hl
  have hI0 := hI
  refine lv_iconst (v := 0) hx hb dX0_simulateTick_0 (by decide) ?_
  refine lv_istore_n (lv' := [(1, .int 0), (0, .ref (q 0))]) hx hb dX0_simulateTick_1 rfl hl (by decide) rfl (fun ls hl => ?_)
  have L_2 : ∀ (n_2 i_2 : Nat) (τ_2 : St) (ls : Array Slot) (H : Heap) (locs : List Loc), i_2 + n_2 = C → lp (F_X0_simulateTick_2 T C) n_2 i_2 τ_2 = (lp (F_X0_simulateTick_2 T C) C 0 σ) → Inv T C τ_2 → lv_has ls 2 [(1, .int (nI i_2)), (0, .ref (q 0))] → PP 0 E q τ_2 H → va_S (Aq q) s.heap H locs → W p l e rm_X0_simulateTick s m args below meth c H locs 0 0 Q (F0 m 2 ls []) := by
    intro n_2
    induction n_2 with
    | zero =>
      intro i_2 τ_2 ls H locs hi_2 hres_2 hI hl hP hS
      have hres : τ_2 = (lp (F_X0_simulateTick_2 T C) C 0 σ) := hres_2
      subst hres
      refine lv_iload_n hx hb dX0_simulateTick_2 rfl (lv_at hl 0 rfl) ?_
      refine lv_aload_n hx hb dX0_simulateTick_3 rfl (lv_at hl 1 rfl) ?_
      refine gf_X0_62 hx hb hts hown hK hP dX0_simulateTick_4 ?_
      refine lv_icmp_ge (tgt := 21) hx hb dX0_simulateTick_7 (by decide) (fun _ => ?_) (fun h => absurd (lp_out hI.2.2.1 (by omega) hi_2) h)
      have hl := lv_sub (l' := [(0, .ref (q 0))]) hl [1] rfl
      refine lv_aload_n hx hb dX0_simulateTick_21 rfl (lv_at hl 0 rfl) ?_
      refine cl_WI (k_X0_chargeTasks l E q hq hT hC (lp (F_X0_simulateTick_2 T C) C 0 σ) hI ) gw_X0_201 hd_X0_chargeTasks ⟨rfl, rfl⟩ S0 hK hP hS (rest := []) rfl hl.1 (Nat.le_of_ble_eq_true rfl) ⟨(Nat.le_of_ble_eq_true rfl), (Nat.le_of_ble_eq_true rfl)⟩ ⟨Nat.zero_le _, Nat.zero_le _⟩ dX0_simulateTick_22 (fun H locs hP hS hex => ?_)
      obtain ⟨hI, -⟩ := hex
      refine lv_istore_n (lv' := [(1, .int (f_X0_chargeTasks T C (lp (F_X0_simulateTick_2 T C) C 0 σ))), (0, .ref (q 0))]) hx hb dX0_simulateTick_25 rfl hl (by decide) rfl (fun ls hl => ?_)
      refine lv_aload_n hx hb dX0_simulateTick_26 rfl (lv_at hl 1 rfl) ?_
      refine cl_WV (k_X0_countIdleCpus l E q hq hT hC (g_X0_chargeTasks T C (lp (F_X0_simulateTick_2 T C) C 0 σ)) hI ) gw_X0_204 hd_X0_countIdleCpus ⟨rfl, rfl⟩ S0 hK hP hS (rest := []) rfl hl.1 (Nat.le_of_ble_eq_true rfl) ⟨(Nat.le_of_ble_eq_true rfl), (Nat.le_of_ble_eq_true rfl)⟩ ⟨Nat.zero_le _, Nat.zero_le _⟩ dX0_simulateTick_27 (fun H locs hP hS hex => ?_)
      obtain ⟨hI, -⟩ := hex
      refine lv_aload_n hx hb dX0_simulateTick_30 rfl (lv_at hl 1 rfl) ?_
      refine cl_WV (k_X0_raiseBases l E q hq hT hC (g_X0_countIdleCpus T C (g_X0_chargeTasks T C (lp (F_X0_simulateTick_2 T C) C 0 σ))) hI ) gw_X0_207 hd_X0_raiseBases ⟨rfl, rfl⟩ S0 hK hP hS (rest := []) rfl hl.1 (Nat.le_of_ble_eq_true rfl) ⟨(Nat.le_of_ble_eq_true rfl), (Nat.le_of_ble_eq_true rfl)⟩ ⟨Nat.zero_le _, Nat.zero_le _⟩ dX0_simulateTick_31 (fun H locs hP hS hex => ?_)
      obtain ⟨hI, -⟩ := hex
      refine lv_iload_n hx hb dX0_simulateTick_34 rfl (lv_at hl 0 rfl) ?_
      exact rt_WI hQ hx hb hr hlocks (Eq.subst (motive := fun z => PP 0 E q z H) (show (g_X0_raiseBases T C (g_X0_countIdleCpus T C (g_X0_chargeTasks T C (lp (F_X0_simulateTick_2 T C) C 0 σ)))) = (g_X0_simulateTick T C σ) from rfl) hP) hS ⟨rfl, ⟨Eq.subst (motive := fun z => Inv T C z) (show (g_X0_raiseBases T C (g_X0_countIdleCpus T C (g_X0_chargeTasks T C (lp (F_X0_simulateTick_2 T C) C 0 σ)))) = (g_X0_simulateTick T C σ) from rfl) hI, trivial⟩⟩ dX0_simulateTick_35
    | succ n_2 ih_2 =>
      intro i_2 τ_2 ls H locs hi_2 hres_2 hI hl hP hS
      refine lv_iload_n hx hb dX0_simulateTick_2 rfl (lv_at hl 0 rfl) ?_
      refine lv_aload_n hx hb dX0_simulateTick_3 rfl (lv_at hl 1 rfl) ?_
      refine gf_X0_62 hx hb hts hown hK hP dX0_simulateTick_4 ?_
      refine lv_icmp_ge (tgt := 21) hx hb dX0_simulateTick_7 (by decide) (fun h => absurd h (lp_in hI.2.2.1 (by omega) hi_2)) (fun _ => ?_)
      refine lv_aload_n hx hb dX0_simulateTick_10 rfl (lv_at hl 1 rfl) ?_
      refine lv_iload_n hx hb dX0_simulateTick_11 rfl (lv_at hl 0 rfl) ?_
      refine cl_WV (k_X0_pickForCore l E q hq hT hC τ_2 hI i_2 (by first | assumption | omega)) gw_X0_198 hd_X0_pickForCore ⟨rfl, rfl⟩ S0 hK hP hS (rest := []) rfl hl.1 (Nat.le_of_ble_eq_true rfl) ⟨(Nat.le_of_ble_eq_true rfl), (Nat.le_of_ble_eq_true rfl)⟩ ⟨Nat.zero_le _, Nat.zero_le _⟩ dX0_simulateTick_12 (fun H locs hP hS hex => ?_)
      obtain ⟨hI, -⟩ := hex
      refine lv_iinc (v := (nI (i_2 + 1))) (lv' := [(1, .int (nI (i_2 + 1))), (0, .ref (q 0))]) hx hb dX0_simulateTick_15 hl (k := 0) rfl (nI_1 _) (by decide) rfl (fun ls hl => ?_)
      refine lv_goto (tgt := 2) hx hb dX0_simulateTick_18 (by decide) ?_
      exact ih_2 (i_2 + 1) (g_X0_pickForCore T C τ_2 i_2) ls H locs (by omega) hres_2 (Eq.subst (motive := fun z => Inv T C z) (show (g_X0_pickForCore T C τ_2 i_2) = (g_X0_pickForCore T C τ_2 i_2) from rfl) hI) (lv_sub (l' := [(1, .int (nI (i_2 + 1))), (0, .ref (q 0))]) hl [0, 1] rfl) (Eq.subst (motive := fun z => PP 0 E q z H) (show (g_X0_pickForCore T C τ_2 i_2) = (g_X0_pickForCore T C τ_2 i_2) from rfl) hP) hS
  exact L_2 C 0 σ ls H locs (Nat.zero_add _) rfl hI (lv_sub hl [0, 1] rfl) hP hS
