abbrev ix (x : Int32) : Nat := x.toNatClampNeg
theorem divne {x : Int32} (h : ¬ x < 1) : ¬ x = 0 := fun e => h (by rw [e]; decide)
def f_X0_isRunnable (T C : Nat) (σ : St) (t : Int32) : Int32 := (if (σ.1 3 (ix t)) = 0 then 1 else (if (σ.1 3 (ix t)) = 1 then 1 else 0))
def rm_X0_isRunnable : Room := { frames := 0, cells := 0, slots := 0, locals := 0 }
set_option maxHeartbeats 1600000 in
set_option maxRecDepth 100000 in
theorem k_X0_isRunnable (l : Launch) (E : Ev) (q : Nat → Nat) (hq : Dq q) {T C : Nat} (hT : T ≤ 16) (hC : 1 ≤ C ∧ C ≤ 4) (σ : St) (hI : Inv T C σ) (t : Int32) (hp0 : vp_in t 16) : RI l 0 E q σ yX0_isRunnable cX0_isRunnable 2 (some .boolean) rm_X0_isRunnable [.int t] (f_X0_isRunnable T C σ t) True := by
  refine Met.ofB (by decide) (Nat.le_of_ble_eq_true rfl) (fun p e s m args below meth c ls Q B hQ hPK hl => ?_)
  obtain ⟨hx, hb, hml, hr, hlocks, hown, hts⟩ := B
  have S0 : Fx p m c cX0_isRunnable 2 s args RX0 := ⟨hx, hb, hml, hown, hts⟩
  obtain ⟨hP, hK⟩ := hPK
  have hl : lv_has ls 2 [(0, .ref (q 0)), (1, .int t)] := hl
  have hI0 := hI
  refine lv_aload_n hx hb dX0_isRunnable_0 rfl (lv_at hl 0 rfl) ?_
  refine gf_X0_19 hx hb hts hown hK hP dX0_isRunnable_1 ?_
  refine lv_iload_n hx hb dX0_isRunnable_4 rfl (lv_at hl 1 rfl) ?_
  refine ld_3 hx hb hK hP hp0 dX0_isRunnable_5 ?_
  refine cutG (fun ls H locs st => ∃ y0 : Int32, y0 = (if (σ.1 3 (ix t)) = 0 then 1 else (if (σ.1 3 (ix t)) = 1 then 1 else 0)) ∧ st = [.int y0] ∧ lv_has ls 2 [(0, .ref (q 0)), (1, .int t)] ∧ H = s.heap ∧ locs = []) 24 (fun ls H locs st hKp => ?_) (fun K6 => ?_)
  · revert hKp
    refine ex_eq (fun hKp => ?_)
    obtain ⟨rfl, hl, rfl, rfl⟩ := hKp
    exact rt_RZ hQ hx hb hr hlocks (nb_ite nb_1 (nb_ite nb_1 nb_0)) ⟨rfl, trivial⟩ dX0_isRunnable_24
  · refine lv_if_eq (tgt := 19) hx hb dX0_isRunnable_6 (by decide) (fun h6 => ?_) (fun h6 => ?_)
    · skip
      refine lv_iconst (v := 1) hx hb dX0_isRunnable_19 (by decide) ?_
      refine lv_goto (tgt := 24) hx hb dX0_isRunnable_20 (by decide) ?_
      exact K6 _ _ _ _ ⟨1, (Eq.symm (if_pos h6)), rfl, lv_sub hl [0, 1] rfl, rfl, rfl⟩
    · skip
      refine lv_aload_n hx hb dX0_isRunnable_9 rfl (lv_at hl 0 rfl) ?_
      refine gf_X0_19 hx hb hts hown hK hP dX0_isRunnable_10 ?_
      refine lv_iload_n hx hb dX0_isRunnable_13 rfl (lv_at hl 1 rfl) ?_
      refine ld_3 hx hb hK hP hp0 dX0_isRunnable_14 ?_
      refine lv_iconst (v := 1) hx hb dX0_isRunnable_15 (by decide) ?_
      refine lv_icmp_ne (tgt := 23) hx hb dX0_isRunnable_16 (by decide) (fun h16 => ?_) (fun h16 => ?_)
      · skip
        refine lv_iconst (v := 0) hx hb dX0_isRunnable_23 (by decide) ?_
        exact K6 _ _ _ _ ⟨0, (Eq.symm (Eq.trans (if_neg h6) (if_neg h16))), rfl, lv_sub hl [0, 1] rfl, rfl, rfl⟩
      · skip
        refine lv_iconst (v := 1) hx hb dX0_isRunnable_19 (by decide) ?_
        refine lv_goto (tgt := 24) hx hb dX0_isRunnable_20 (by decide) ?_
        exact K6 _ _ _ _ ⟨1, (Eq.symm (Eq.trans (if_neg h6) (if_pos h16))), rfl, lv_sub hl [0, 1] rfl, rfl, rfl⟩
def f_X0_coreOfCpu (c9 : Int32) : Int32 := (c9 / 2)
def rm_X0_coreOfCpu : Room := { frames := 0, cells := 0, slots := 0, locals := 0 }
set_option maxHeartbeats 1600000 in
set_option maxRecDepth 100000 in
theorem k_X0_coreOfCpu (l : Launch) (c9 : Int32) : NI l yX0_coreOfCpu cX0_coreOfCpu 1 (some .int) rm_X0_coreOfCpu [.int c9] (f_X0_coreOfCpu c9) := by
  refine Met.ofB (by decide) (Nat.le_of_ble_eq_true rfl) (fun p e s m args below meth c ls Q B hQ hPK hl => ?_)
  obtain ⟨hx, hb, hml, hr, hlocks, hown, hts⟩ := B
  have S0 : Fx p m c cX0_coreOfCpu 1 s args RX0 := ⟨hx, hb, hml, hown, hts⟩
  have hl : lv_has ls 1 [(0, .int c9)] := hl
  refine lv_iload_n hx hb dX0_coreOfCpu_0 rfl (lv_at hl 0 rfl) ?_
  refine lv_iconst (v := 2) hx hb dX0_coreOfCpu_1 (by decide) ?_
  refine lv_idiv hx hb dX0_coreOfCpu_2 (by decide) ?_
  exact rt_NI hQ hx hb hr hlocks rfl dX0_coreOfCpu_3
def f_X0_isQueued (T C : Nat) (σ : St) (t : Int32) (c9 : Int32) : Int32 := (if (σ.1 0 (ix t)) = c9 then (if (f_X0_isRunnable T C σ t) = 0 then 0 else 1) else 0)
def rm_X0_isQueued : Room := { frames := 1, cells := 0, slots := 0, locals := 21 }
set_option maxHeartbeats 1600000 in
set_option maxRecDepth 100000 in
theorem k_X0_isQueued (l : Launch) (E : Ev) (q : Nat → Nat) (hq : Dq q) {T C : Nat} (hT : T ≤ 16) (hC : 1 ≤ C ∧ C ≤ 4) (σ : St) (hI : Inv T C σ) (t : Int32) (c9 : Int32) (hp0 : vp_in t 16) : RI l 0 E q σ yX0_isQueued cX0_isQueued 3 (some .boolean) rm_X0_isQueued [.int t, .int c9] (f_X0_isQueued T C σ t c9) True := by
  refine Met.ofB (by decide) (Nat.le_of_ble_eq_true rfl) (fun p e s m args below meth c ls Q B hQ hPK hl => ?_)
  obtain ⟨hx, hb, hml, hr, hlocks, hown, hts⟩ := B
  have S0 : Fx p m c cX0_isQueued 3 s args RX0 := ⟨hx, hb, hml, hown, hts⟩
  obtain ⟨hP, hK⟩ := hPK
  have hl : lv_has ls 3 [(0, .ref (q 0)), (1, .int t), (2, .int c9)] := hl
  have hI0 := hI
  refine lv_aload_n hx hb dX0_isQueued_0 rfl (lv_at hl 0 rfl) ?_
  refine gf_X0_9 hx hb hts hown hK hP dX0_isQueued_1 ?_
  refine lv_iload_n hx hb dX0_isQueued_4 rfl (lv_at hl 1 rfl) ?_
  refine ld_0 hx hb hK hP hp0 dX0_isQueued_5 ?_
  refine lv_iload_n hx hb dX0_isQueued_6 rfl (lv_at hl 2 rfl) ?_
  refine cutG (fun ls H locs st => ∃ y0 : Int32, y0 = (if (σ.1 0 (ix t)) = c9 then (if (f_X0_isRunnable T C σ t) = 0 then 0 else 1) else 0) ∧ st = [.int y0] ∧ lv_has ls 3 [(0, .ref (q 0)), (1, .int t), (2, .int c9)] ∧ H = s.heap ∧ locs = []) 23 (fun ls H locs st hKp => ?_) (fun K7 => ?_)
  · revert hKp
    refine ex_eq (fun hKp => ?_)
    obtain ⟨rfl, hl, rfl, rfl⟩ := hKp
    exact rt_RZ hQ hx hb hr hlocks (nb_ite (nb_ite nb_0 nb_1) nb_0) ⟨rfl, trivial⟩ dX0_isQueued_23
  · refine lv_icmp_ne (tgt := 22) hx hb dX0_isQueued_7 (by decide) (fun h7 => ?_) (fun h7 => ?_)
    · skip
      refine lv_iconst (v := 0) hx hb dX0_isQueued_22 (by decide) ?_
      exact K7 _ _ _ _ ⟨0, (Eq.symm (if_neg h7)), rfl, lv_sub hl [0, 1, 2] rfl, rfl, rfl⟩
    · skip
      refine lv_aload_n hx hb dX0_isQueued_10 rfl (lv_at hl 0 rfl) ?_
      refine lv_iload_n hx hb dX0_isQueued_11 rfl (lv_at hl 1 rfl) ?_
      refine cl_RI (k_X0_isRunnable l E q hq hT hC σ hI t hp0) gw_X0_99 hd_X0_isRunnable ⟨rfl, rfl⟩ S0 hK hP (rest := []) rfl hl.1 (Nat.le_of_ble_eq_true rfl) ⟨(Nat.le_of_ble_eq_true rfl), (Nat.le_of_ble_eq_true rfl)⟩ ⟨Nat.zero_le _, Nat.zero_le _⟩ dX0_isQueued_12 (fun hex => ?_)
      refine lv_if_eq (tgt := 22) hx hb dX0_isQueued_15 (by decide) (fun h15 => ?_) (fun h15 => ?_)
      · skip
        refine lv_iconst (v := 0) hx hb dX0_isQueued_22 (by decide) ?_
        exact K7 _ _ _ _ ⟨0, (Eq.symm (Eq.trans (if_pos h7) (if_pos h15))), rfl, lv_sub hl [0, 1, 2] rfl, rfl, rfl⟩
      · skip
        refine lv_iconst (v := 1) hx hb dX0_isQueued_18 (by decide) ?_
        refine lv_goto (tgt := 23) hx hb dX0_isQueued_19 (by decide) ?_
        exact K7 _ _ _ _ ⟨1, (Eq.symm (Eq.trans (if_pos h7) (if_neg h15))), rfl, lv_sub hl [0, 1, 2] rfl, rfl, rfl⟩
def f_X0_isOnCore (T C : Nat) (σ : St) (t : Int32) (r9 : Int32) : Int32 := (if (f_X0_coreOfCpu (σ.1 0 (ix t))) = r9 then 1 else 0)
def rm_X0_isOnCore : Room := { frames := 1, cells := 0, slots := 0, locals := 20 }
set_option maxHeartbeats 1600000 in
set_option maxRecDepth 100000 in
theorem k_X0_isOnCore (l : Launch) (E : Ev) (q : Nat → Nat) (hq : Dq q) {T C : Nat} (hT : T ≤ 16) (hC : 1 ≤ C ∧ C ≤ 4) (σ : St) (hI : Inv T C σ) (t : Int32) (r9 : Int32) (hp0 : vp_in t 16) : RI l 0 E q σ yX0_isOnCore cX0_isOnCore 3 (some .boolean) rm_X0_isOnCore [.int t, .int r9] (f_X0_isOnCore T C σ t r9) True := by
  refine Met.ofB (by decide) (Nat.le_of_ble_eq_true rfl) (fun p e s m args below meth c ls Q B hQ hPK hl => ?_)
  obtain ⟨hx, hb, hml, hr, hlocks, hown, hts⟩ := B
  have S0 : Fx p m c cX0_isOnCore 3 s args RX0 := ⟨hx, hb, hml, hown, hts⟩
  obtain ⟨hP, hK⟩ := hPK
  have hl : lv_has ls 3 [(0, .ref (q 0)), (1, .int t), (2, .int r9)] := hl
  have hI0 := hI
  refine lv_aload_n hx hb dX0_isOnCore_0 rfl (lv_at hl 0 rfl) ?_
  refine gf_X0_9 hx hb hts hown hK hP dX0_isOnCore_1 ?_
  refine lv_iload_n hx hb dX0_isOnCore_4 rfl (lv_at hl 1 rfl) ?_
  refine ld_0 hx hb hK hP hp0 dX0_isOnCore_5 ?_
  refine cl_NI (k_X0_coreOfCpu l (σ.1 0 (ix t))) gw_X0_160 hd_X0_coreOfCpu ⟨rfl, rfl⟩ S0 (rest := []) rfl hl.1 (Nat.le_of_ble_eq_true rfl) ⟨(Nat.le_of_ble_eq_true rfl), (Nat.le_of_ble_eq_true rfl)⟩ ⟨Nat.zero_le _, Nat.zero_le _⟩ dX0_isOnCore_6 ?_
  refine lv_iload_n hx hb dX0_isOnCore_9 rfl (lv_at hl 2 rfl) ?_
  refine cutG (fun ls H locs st => ∃ y0 : Int32, y0 = (if (f_X0_coreOfCpu (σ.1 0 (ix t))) = r9 then 1 else 0) ∧ st = [.int y0] ∧ lv_has ls 3 [(0, .ref (q 0)), (1, .int t), (2, .int r9)] ∧ H = s.heap ∧ locs = []) 18 (fun ls H locs st hKp => ?_) (fun K10 => ?_)
  · revert hKp
    refine ex_eq (fun hKp => ?_)
    obtain ⟨rfl, hl, rfl, rfl⟩ := hKp
    exact rt_RZ hQ hx hb hr hlocks (nb_ite nb_1 nb_0) ⟨rfl, trivial⟩ dX0_isOnCore_18
  · refine lv_icmp_ne (tgt := 17) hx hb dX0_isOnCore_10 (by decide) (fun h10 => ?_) (fun h10 => ?_)
    · skip
      refine lv_iconst (v := 0) hx hb dX0_isOnCore_17 (by decide) ?_
      exact K10 _ _ _ _ ⟨0, (Eq.symm (if_neg h10)), rfl, lv_sub hl [0, 1, 2] rfl, rfl, rfl⟩
    · skip
      refine lv_iconst (v := 1) hx hb dX0_isOnCore_13 (by decide) ?_
      refine lv_goto (tgt := 18) hx hb dX0_isOnCore_14 (by decide) ?_
      exact K10 _ _ _ _ ⟨1, (Eq.symm (if_pos h10)), rfl, lv_sub hl [0, 1, 2] rfl, rfl, rfl⟩
def f_X0_relativeTime (T C : Nat) (σ : St) (t : Int32) : Int64 := ((σ.2.1 4 (ix t)) - (σ.2.1 7 (ix (σ.1 0 (ix t)))))
def rm_X0_relativeTime : Room := { frames := 0, cells := 0, slots := 0, locals := 0 }
set_option maxHeartbeats 1600000 in
set_option maxRecDepth 100000 in
theorem k_X0_relativeTime (l : Launch) (E : Ev) (q : Nat → Nat) (hq : Dq q) {T C : Nat} (hT : T ≤ 16) (hC : 1 ≤ C ∧ C ≤ 4) (σ : St) (hI : Inv T C σ) (t : Int32) (hp0 : vp_in t 16) : RJ l 0 E q σ yX0_relativeTime cX0_relativeTime 2 (some .long) rm_X0_relativeTime [.int t] (f_X0_relativeTime T C σ t) True := by
  refine Met.ofB (by decide) (Nat.le_of_ble_eq_true rfl) (fun p e s m args below meth c ls Q B hQ hPK hl => ?_)
  obtain ⟨hx, hb, hml, hr, hlocks, hown, hts⟩ := B
  have S0 : Fx p m c cX0_relativeTime 2 s args RX0 := ⟨hx, hb, hml, hown, hts⟩
  obtain ⟨hP, hK⟩ := hPK
  have hl : lv_has ls 2 [(0, .ref (q 0)), (1, .int t)] := hl
  have hI0 := hI
  refine lv_aload_n hx hb dX0_relativeTime_0 rfl (lv_at hl 0 rfl) ?_
  refine gf_X0_22 hx hb hts hown hK hP dX0_relativeTime_1 ?_
  refine lv_iload_n hx hb dX0_relativeTime_4 rfl (lv_at hl 1 rfl) ?_
  refine ld_4 hx hb hK hP hp0 dX0_relativeTime_5 ?_
  refine lv_aload_n hx hb dX0_relativeTime_6 rfl (lv_at hl 0 rfl) ?_
  refine gf_X0_32 hx hb hts hown hK hP dX0_relativeTime_7 ?_
  refine lv_aload_n hx hb dX0_relativeTime_10 rfl (lv_at hl 0 rfl) ?_
  refine gf_X0_9 hx hb hts hown hK hP dX0_relativeTime_11 ?_
  refine lv_iload_n hx hb dX0_relativeTime_14 rfl (lv_at hl 1 rfl) ?_
  refine ld_0 hx hb hK hP hp0 dX0_relativeTime_15 ?_
  refine ld_7 hx hb hK hP (hI.1 _) dX0_relativeTime_16 ?_
  refine lv_lsub hx hb dX0_relativeTime_17 ?_
  exact rt_RJ hQ hx hb hr hlocks ⟨rfl, trivial⟩ dX0_relativeTime_18
def f_X0_comesBefore (T C : Nat) (σ : St) (t : Int32) (o9 : Int32) : Int32 := (if o9 = (-1) then 1 else (if (lg_cmp (f_X0_relativeTime T C σ t) (f_X0_relativeTime T C σ o9)) < 0 then 1 else (if (lg_cmp (f_X0_relativeTime T C σ t) (f_X0_relativeTime T C σ o9)) = 0 then (if o9 ≤ t then 0 else 1) else 0)))
def rm_X0_comesBefore : Room := { frames := 1, cells := 0, slots := 0, locals := 21 }
set_option maxHeartbeats 1600000 in
set_option maxRecDepth 100000 in
theorem k_X0_comesBefore (l : Launch) (E : Ev) (q : Nat → Nat) (hq : Dq q) {T C : Nat} (hT : T ≤ 16) (hC : 1 ≤ C ∧ C ≤ 4) (σ : St) (hI : Inv T C σ) (t : Int32) (o9 : Int32) (hp0 : vp_in t 16) (hp1 : vo o9) : RI l 0 E q σ yX0_comesBefore cX0_comesBefore 7 (some .boolean) rm_X0_comesBefore [.int t, .int o9] (f_X0_comesBefore T C σ t o9) True := by
  refine Met.ofB (by decide) (Nat.le_of_ble_eq_true rfl) (fun p e s m args below meth c ls Q B hQ hPK hl => ?_)
  obtain ⟨hx, hb, hml, hr, hlocks, hown, hts⟩ := B
  have S0 : Fx p m c cX0_comesBefore 7 s args RX0 := ⟨hx, hb, hml, hown, hts⟩
  obtain ⟨hP, hK⟩ := hPK
  have hl : lv_has ls 7 [(0, .ref (q 0)), (1, .int t), (2, .int o9)] := hl
  have hI0 := hI
  refine lv_iload_n hx hb dX0_comesBefore_0 rfl (lv_at hl 2 rfl) ?_
  refine lv_iconst (v := -1) hx hb dX0_comesBefore_1 (by decide) ?_
  refine lv_icmp_ne (tgt := 7) hx hb dX0_comesBefore_2 (by decide) (fun h2 => ?_) (fun h2 => ?_)
  · skip
    refine lv_aload_n hx hb dX0_comesBefore_7 rfl (lv_at hl 0 rfl) ?_
    refine lv_iload_n hx hb dX0_comesBefore_8 rfl (lv_at hl 1 rfl) ?_
    refine cl_RJ (k_X0_relativeTime l E q hq hT hC σ hI t hp0) gw_X0_163 hd_X0_relativeTime ⟨rfl, rfl⟩ S0 hK hP (rest := []) rfl hl.1 (Nat.le_of_ble_eq_true rfl) ⟨(Nat.le_of_ble_eq_true rfl), (Nat.le_of_ble_eq_true rfl)⟩ ⟨Nat.zero_le _, Nat.zero_le _⟩ dX0_comesBefore_9 (fun hex => ?_)
    refine lv_lstore_n (lv' := [(3, .long (f_X0_relativeTime T C σ t)), (0, .ref (q 0)), (1, .int t), (2, .int o9)]) hx hb dX0_comesBefore_12 rfl hl (by decide) rfl (fun ls hl => ?_)
    refine lv_aload_n hx hb dX0_comesBefore_13 rfl (lv_at hl 1 rfl) ?_
    refine lv_iload_n hx hb dX0_comesBefore_14 rfl (lv_at hl 3 rfl) ?_
    refine cl_RJ (k_X0_relativeTime l E q hq hT hC σ hI o9 (vo.in hp1 h2)) gw_X0_163 hd_X0_relativeTime ⟨rfl, rfl⟩ S0 hK hP (rest := []) rfl hl.1 (Nat.le_of_ble_eq_true rfl) ⟨(Nat.le_of_ble_eq_true rfl), (Nat.le_of_ble_eq_true rfl)⟩ ⟨Nat.zero_le _, Nat.zero_le _⟩ dX0_comesBefore_15 (fun hex => ?_)
    refine lv_lstore (lv' := [(5, .long (f_X0_relativeTime T C σ o9)), (3, .long (f_X0_relativeTime T C σ t)), (0, .ref (q 0)), (1, .int t), (2, .int o9)]) hx hb dX0_comesBefore_18 hl (by decide) rfl (fun ls hl => ?_)
    refine lv_lload_n hx hb dX0_comesBefore_20 rfl (lv_at hl 1 rfl) ?_
    refine lv_lload hx hb dX0_comesBefore_21 (lv_at hl 0 rfl) ?_
    refine W.lcmp hx hb dX0_comesBefore_23 ?_
    refine cutG (fun ls H locs st => ∃ y0 : Int32, y0 = (if (lg_cmp (f_X0_relativeTime T C σ t) (f_X0_relativeTime T C σ o9)) < 0 then 1 else (if (lg_cmp (f_X0_relativeTime T C σ t) (f_X0_relativeTime T C σ o9)) = 0 then (if o9 ≤ t then 0 else 1) else 0)) ∧ st = [.int y0] ∧ lv_has ls 7 [(5, .long (f_X0_relativeTime T C σ o9)), (3, .long (f_X0_relativeTime T C σ t)), (0, .ref (q 0)), (1, .int t), (2, .int o9)] ∧ H = s.heap ∧ locs = []) 44 (fun ls H locs st hKp => ?_) (fun K24 => ?_)
    · revert hKp
      refine ex_eq (fun hKp => ?_)
      obtain ⟨rfl, hl, rfl, rfl⟩ := hKp
      exact rt_RZ hQ hx hb hr hlocks (nb_ite nb_1 (nb_ite (nb_ite nb_0 nb_1) nb_0)) ⟨(Eq.symm (if_neg h2)), trivial⟩ dX0_comesBefore_44
    · refine lv_if_lt (tgt := 39) hx hb dX0_comesBefore_24 (by decide) (fun h24 => ?_) (fun h24 => ?_)
      · skip
        refine lv_iconst (v := 1) hx hb dX0_comesBefore_39 (by decide) ?_
        refine lv_goto (tgt := 44) hx hb dX0_comesBefore_40 (by decide) ?_
        exact K24 _ _ _ _ ⟨1, (Eq.symm (if_pos h24)), rfl, lv_sub hl [0, 1, 2, 3, 4] rfl, rfl, rfl⟩
      · skip
        refine lv_lload_n hx hb dX0_comesBefore_27 rfl (lv_at hl 1 rfl) ?_
        refine lv_lload hx hb dX0_comesBefore_28 (lv_at hl 0 rfl) ?_
        refine W.lcmp hx hb dX0_comesBefore_30 ?_
        refine lv_if_ne (tgt := 43) hx hb dX0_comesBefore_31 (by decide) (fun h31 => ?_) (fun h31 => ?_)
        · skip
          refine lv_iconst (v := 0) hx hb dX0_comesBefore_43 (by decide) ?_
          exact K24 _ _ _ _ ⟨0, (Eq.symm (Eq.trans (if_neg h24) (if_neg h31))), rfl, lv_sub hl [0, 1, 2, 3, 4] rfl, rfl, rfl⟩
        · skip
          refine lv_iload_n hx hb dX0_comesBefore_34 rfl (lv_at hl 3 rfl) ?_
          refine lv_iload_n hx hb dX0_comesBefore_35 rfl (lv_at hl 4 rfl) ?_
          refine lv_icmp_ge (tgt := 43) hx hb dX0_comesBefore_36 (by decide) (fun h36 => ?_) (fun h36 => ?_)
          · skip
            refine lv_iconst (v := 0) hx hb dX0_comesBefore_43 (by decide) ?_
            exact K24 _ _ _ _ ⟨0, (Eq.symm (Eq.trans (Eq.trans (if_neg h24) (if_pos h31)) (if_pos h36))), rfl, lv_sub hl [0, 1, 2, 3, 4] rfl, rfl, rfl⟩
          · skip
            refine lv_iconst (v := 1) hx hb dX0_comesBefore_39 (by decide) ?_
            refine lv_goto (tgt := 44) hx hb dX0_comesBefore_40 (by decide) ?_
            exact K24 _ _ _ _ ⟨1, (Eq.symm (Eq.trans (Eq.trans (if_neg h24) (if_pos h31)) (if_neg h36))), rfl, lv_sub hl [0, 1, 2, 3, 4] rfl, rfl, rfl⟩
  · skip
    refine lv_iconst (v := 1) hx hb dX0_comesBefore_5 (by decide) ?_
    exact rt_RZ hQ hx hb hr hlocks nb_1 ⟨(Eq.symm (if_pos h2)), trivial⟩ dX0_comesBefore_6
def F_X0_findLeader_4 (T : Nat) (C : Nat) (σ : St) (r9 : Int32) : Nat → Int32 → Int32 := fun i_4 z => (if (f_X0_isRunnable T C σ (nI i_4)) = 0 then z else (if (f_X0_isOnCore T C σ (nI i_4) r9) = 0 then z else (if (f_X0_comesBefore T C σ (nI i_4) z) = 0 then z else (nI i_4))))
def f_X0_findLeader (T C : Nat) (σ : St) (r9 : Int32) : Int32 := (lp (F_X0_findLeader_4 T C σ r9) T 0 (-1))
def rm_X0_findLeader : Room := { frames := 2, cells := 0, slots := 0, locals := 47 }
set_option maxHeartbeats 1600000 in
set_option maxRecDepth 100000 in
theorem k_X0_findLeader (l : Launch) (E : Ev) (q : Nat → Nat) (hq : Dq q) {T C : Nat} (hT : T ≤ 16) (hC : 1 ≤ C ∧ C ≤ 4) (σ : St) (hI : Inv T C σ) (r9 : Int32) : RI l 0 E q σ yX0_findLeader cX0_findLeader 4 (some .int) rm_X0_findLeader [.int r9] (f_X0_findLeader T C σ r9) (vo (f_X0_findLeader T C σ r9) ∧ True) := by
  refine Met.ofB (by decide) (Nat.le_of_ble_eq_true rfl) (fun p e s m args below meth c ls Q B hQ hPK hl => ?_)
  obtain ⟨hx, hb, hml, hr, hlocks, hown, hts⟩ := B
  have S0 : Fx p m c cX0_findLeader 4 s args RX0 := ⟨hx, hb, hml, hown, hts⟩
  obtain ⟨hP, hK⟩ := hPK
  have hl : lv_has ls 4 [(0, .ref (q 0)), (1, .int r9)] := hl
  have hI0 := hI
  refine lv_iconst (v := -1) hx hb dX0_findLeader_0 (by decide) ?_
  refine lv_istore_n (lv' := [(2, .int (-1)), (0, .ref (q 0)), (1, .int r9)]) hx hb dX0_findLeader_1 rfl hl (by decide) rfl (fun ls hl => ?_)
  refine lv_iconst (v := 0) hx hb dX0_findLeader_2 (by decide) ?_
  refine lv_istore_n (lv' := [(3, .int 0), (2, .int (-1)), (0, .ref (q 0)), (1, .int r9)]) hx hb dX0_findLeader_3 rfl hl (by decide) rfl (fun ls hl => ?_)
  have L_4 : ∀ (n_4 i_4 : Nat) (a2_4 : Int32) (ls : Array Slot), i_4 + n_4 = T → lp (F_X0_findLeader_4 T C σ r9) n_4 i_4 a2_4 = (lp (F_X0_findLeader_4 T C σ r9) T 0 (-1)) → vo a2_4 → lv_has ls 4 [(3, .int (nI i_4)), (2, .int a2_4), (0, .ref (q 0)), (1, .int r9)] → W p l e rm_X0_findLeader s m args below meth c s.heap [] 0 0 Q (F0 m 4 ls []) := by
    intro n_4
    induction n_4 with
    | zero =>
      intro i_4 a2_4 ls hi_4 hres_4 hvo_a2_4 hl
      have hres : a2_4 = (lp (F_X0_findLeader_4 T C σ r9) T 0 (-1)) := hres_4
      subst hres
      refine lv_iload_n hx hb dX0_findLeader_4 rfl (lv_at hl 0 rfl) ?_
      refine lv_aload_n hx hb dX0_findLeader_5 rfl (lv_at hl 2 rfl) ?_
      refine gf_X0_85 hx hb hts hown hK hP dX0_findLeader_6 ?_
      refine lv_icmp_ge (tgt := 46) hx hb dX0_findLeader_9 (by decide) (fun _ => ?_) (fun h => absurd (lp_out hI.2.1 (by omega) hi_4) h)
      have hl := lv_sub (l' := [(2, .int (lp (F_X0_findLeader_4 T C σ r9) T 0 (-1))), (0, .ref (q 0)), (1, .int r9)]) hl [1, 2, 3] rfl
      refine lv_iload_n hx hb dX0_findLeader_46 rfl (lv_at hl 0 rfl) ?_
      exact rt_RI hQ hx hb hr hlocks ⟨rfl, ⟨Eq.subst (motive := fun z => vo z) (show (lp (F_X0_findLeader_4 T C σ r9) T 0 (-1)) = (f_X0_findLeader T C σ r9) from rfl) (show vo (lp (F_X0_findLeader_4 T C σ r9) T 0 (-1)) from hvo_a2_4), trivial⟩⟩ dX0_findLeader_47
    | succ n_4 ih_4 =>
      intro i_4 a2_4 ls hi_4 hres_4 hvo_a2_4 hl
      refine lv_iload_n hx hb dX0_findLeader_4 rfl (lv_at hl 0 rfl) ?_
      refine lv_aload_n hx hb dX0_findLeader_5 rfl (lv_at hl 2 rfl) ?_
      refine gf_X0_85 hx hb hts hown hK hP dX0_findLeader_6 ?_
      refine lv_icmp_ge (tgt := 46) hx hb dX0_findLeader_9 (by decide) (fun h => absurd h (lp_in hI.2.1 (by omega) hi_4)) (fun _ => ?_)
      refine lv_aload_n hx hb dX0_findLeader_12 rfl (lv_at hl 2 rfl) ?_
      refine lv_iload_n hx hb dX0_findLeader_13 rfl (lv_at hl 0 rfl) ?_
      refine cl_RI (k_X0_isRunnable l E q hq hT hC σ hI (nI i_4) (vp_in_nI (by omega) (by decide))) gw_X0_99 hd_X0_isRunnable ⟨rfl, rfl⟩ S0 hK hP (rest := []) rfl hl.1 (Nat.le_of_ble_eq_true rfl) ⟨(Nat.le_of_ble_eq_true rfl), (Nat.le_of_ble_eq_true rfl)⟩ ⟨Nat.zero_le _, Nat.zero_le _⟩ dX0_findLeader_14 (fun hex => ?_)
      refine cutG (fun ls H locs st => ∃ x2 : Int32, x2 = (if (f_X0_isRunnable T C σ (nI i_4)) = 0 then a2_4 else (if (f_X0_isOnCore T C σ (nI i_4) r9) = 0 then a2_4 else (if (f_X0_comesBefore T C σ (nI i_4) a2_4) = 0 then a2_4 else (nI i_4)))) ∧ st = [] ∧ lv_has ls 4 [(3, .int (nI i_4)), (2, .int x2), (0, .ref (q 0)), (1, .int r9)] ∧ H = s.heap ∧ locs = []) 40 (fun ls H locs st hKp => ?_) (fun K17 => ?_)
      · revert hKp
        refine ex_eq (fun hKp => ?_)
        obtain ⟨rfl, hl, rfl, rfl⟩ := hKp
        refine lv_iinc (v := (nI (i_4 + 1))) (lv' := [(3, .int (nI (i_4 + 1))), (2, .int (if (f_X0_isRunnable T C σ (nI i_4)) = 0 then a2_4 else (if (f_X0_isOnCore T C σ (nI i_4) r9) = 0 then a2_4 else (if (f_X0_comesBefore T C σ (nI i_4) a2_4) = 0 then a2_4 else (nI i_4))))), (0, .ref (q 0)), (1, .int r9)]) hx hb dX0_findLeader_40 hl (k := 0) rfl (nI_1 _) (by decide) rfl (fun ls hl => ?_)
        refine lv_goto (tgt := 4) hx hb dX0_findLeader_43 (by decide) ?_
        exact ih_4 (i_4 + 1) (if (f_X0_isRunnable T C σ (nI i_4)) = 0 then a2_4 else (if (f_X0_isOnCore T C σ (nI i_4) r9) = 0 then a2_4 else (if (f_X0_comesBefore T C σ (nI i_4) a2_4) = 0 then a2_4 else (nI i_4)))) ls (by omega) hres_4 (Eq.subst (motive := fun z => vo z) (show (if (f_X0_isRunnable T C σ (nI i_4)) = 0 then a2_4 else (if (f_X0_isOnCore T C σ (nI i_4) r9) = 0 then a2_4 else (if (f_X0_comesBefore T C σ (nI i_4) a2_4) = 0 then a2_4 else (nI i_4)))) = (if (f_X0_isRunnable T C σ (nI i_4)) = 0 then a2_4 else (if (f_X0_isOnCore T C σ (nI i_4) r9) = 0 then a2_4 else (if (f_X0_comesBefore T C σ (nI i_4) a2_4) = 0 then a2_4 else (nI i_4)))) from rfl) (show vo (if (f_X0_isRunnable T C σ (nI i_4)) = 0 then a2_4 else (if (f_X0_isOnCore T C σ (nI i_4) r9) = 0 then a2_4 else (if (f_X0_comesBefore T C σ (nI i_4) a2_4) = 0 then a2_4 else (nI i_4)))) from (vo.ite hvo_a2_4 (vo.ite hvo_a2_4 (vo.ite hvo_a2_4 (vo_nI (by omega))))))) (lv_sub (l' := [(3, .int (nI (i_4 + 1))), (2, .int (if (f_X0_isRunnable T C σ (nI i_4)) = 0 then a2_4 else (if (f_X0_isOnCore T C σ (nI i_4) r9) = 0 then a2_4 else (if (f_X0_comesBefore T C σ (nI i_4) a2_4) = 0 then a2_4 else (nI i_4))))), (0, .ref (q 0)), (1, .int r9)]) hl [0, 1, 2, 3] rfl)
      · refine lv_if_eq (tgt := 40) hx hb dX0_findLeader_17 (by decide) (fun h17 => ?_) (fun h17 => ?_)
        · skip
          exact K17 _ _ _ _ ⟨a2_4, (Eq.symm (if_pos h17)), rfl, lv_sub hl [0, 1, 2, 3] rfl, rfl, rfl⟩
        · skip
          refine lv_aload_n hx hb dX0_findLeader_20 rfl (lv_at hl 2 rfl) ?_
          refine lv_iload_n hx hb dX0_findLeader_21 rfl (lv_at hl 0 rfl) ?_
          refine lv_iload_n hx hb dX0_findLeader_22 rfl (lv_at hl 3 rfl) ?_
          refine cl_RI (k_X0_isOnCore l E q hq hT hC σ hI (nI i_4) r9 (vp_in_nI (by omega) (by decide))) gw_X0_185 hd_X0_isOnCore ⟨rfl, rfl⟩ S0 hK hP (rest := []) rfl hl.1 (Nat.le_of_ble_eq_true rfl) ⟨(Nat.le_of_ble_eq_true rfl), (Nat.le_of_ble_eq_true rfl)⟩ ⟨Nat.zero_le _, Nat.zero_le _⟩ dX0_findLeader_23 (fun hex => ?_)
          refine lv_if_eq (tgt := 40) hx hb dX0_findLeader_26 (by decide) (fun h26 => ?_) (fun h26 => ?_)
          · skip
            exact K17 _ _ _ _ ⟨a2_4, (Eq.symm (Eq.trans (if_neg h17) (if_pos h26))), rfl, lv_sub hl [0, 1, 2, 3] rfl, rfl, rfl⟩
          · skip
            refine lv_aload_n hx hb dX0_findLeader_29 rfl (lv_at hl 2 rfl) ?_
            refine lv_iload_n hx hb dX0_findLeader_30 rfl (lv_at hl 0 rfl) ?_
            refine lv_iload_n hx hb dX0_findLeader_31 rfl (lv_at hl 1 rfl) ?_
            refine cl_RI (k_X0_comesBefore l E q hq hT hC σ hI (nI i_4) a2_4 (vp_in_nI (by omega) (by decide)) hvo_a2_4) gw_X0_167 hd_X0_comesBefore ⟨rfl, rfl⟩ S0 hK hP (rest := []) rfl hl.1 (Nat.le_of_ble_eq_true rfl) ⟨(Nat.le_of_ble_eq_true rfl), (Nat.le_of_ble_eq_true rfl)⟩ ⟨Nat.zero_le _, Nat.zero_le _⟩ dX0_findLeader_32 (fun hex => ?_)
            refine lv_if_eq (tgt := 40) hx hb dX0_findLeader_35 (by decide) (fun h35 => ?_) (fun h35 => ?_)
            · skip
              exact K17 _ _ _ _ ⟨a2_4, (Eq.symm (Eq.trans (Eq.trans (if_neg h17) (if_neg h26)) (if_pos h35))), rfl, lv_sub hl [0, 1, 2, 3] rfl, rfl, rfl⟩
            · skip
              refine lv_iload_n hx hb dX0_findLeader_38 rfl (lv_at hl 0 rfl) ?_
              refine lv_istore_n (lv' := [(2, .int (nI i_4)), (3, .int (nI i_4)), (0, .ref (q 0)), (1, .int r9)]) hx hb dX0_findLeader_39 rfl hl (by decide) rfl (fun ls hl => ?_)
              exact K17 _ _ _ _ ⟨(nI i_4), (Eq.symm (Eq.trans (Eq.trans (if_neg h17) (if_neg h26)) (if_neg h35))), rfl, lv_sub hl [1, 0, 2, 3] rfl, rfl, rfl⟩
  exact L_4 T 0 (-1) ls (Nat.zero_add T) rfl vo_1 (lv_sub hl [0, 1, 2, 3] rfl)
