theorem out_lt (t x : Int32) (N : Nat) (hx : x = nI N) : (if t < 0 then (1 : Int32) else (if t < x then 0 else 1)) = out t N := by
  subst hx
  unfold out
  by_cases h1 : t < 0
  · rw [if_pos h1, if_pos h1]
  · rw [if_neg h1, if_neg h1]
    by_cases h2 : nI N ≤ t
    · rw [if_pos h2, if_neg (Int32.not_lt.mpr h2)]
    · rw [if_neg h2, if_pos (Int32.not_le.mp h2)]
theorem eTask_eq {T C : Nat} {σ : St} (hI : Inv T C σ) (t : Int32) : e_X0_checkTask T C σ t = out t T := out_lt t _ T hI.2.1
theorem eCpu_eq {T C : Nat} {σ : St} (hI : Inv T C σ) (t : Int32) : e_X0_checkCpu T C σ t = out t (2 * C) := out_lt t _ (2 * C) (cpuT hI)
theorem eCore_eq {T C : Nat} {σ : St} (hI : Inv T C σ) (t : Int32) : e_X0_checkCore T C σ t = out t C := out_lt t _ C hI.2.2.1
theorem inT0 {T C : Nat} {σ : St} {t : Int32} (hI : Inv T C σ) (hT : T ≤ 16) (h : e_X0_checkTask T C σ t = 0) : vp_in t 16 := by
  rw [eTask_eq hI] at h
  obtain ⟨j, hj, rfl⟩ := out_in (by omega) h
  exact vp_in_nI (by omega) (by decide)
theorem inC0 {T C : Nat} {σ : St} {t : Int32} (hI : Inv T C σ) (hC : 1 ≤ C ∧ C ≤ 4) (h : e_X0_checkCpu T C σ t = 0) : vp_in t 8 := by
  rw [eCpu_eq hI] at h
  obtain ⟨j, hj, rfl⟩ := out_in (by omega) h
  exact vp_in_nI (by omega) (by decide)
theorem inR0 {T C : Nat} {σ : St} {t : Int32} (hI : Inv T C σ) (hC : 1 ≤ C ∧ C ≤ 4) (h : e_X0_checkCore T C σ t = 0) : vp_in t 4 := by
  rw [eCore_eq hI] at h
  obtain ⟨j, hj, rfl⟩ := out_in (by omega) h
  exact vp_in_nI (by omega) (by decide)
theorem inW0 {w : Int32} (h : e_X0_checkWeight w = 0) : ¬ w < 1 := by
  intro h1
  unfold e_X0_checkWeight at h
  rw [if_pos h1] at h
  exact absurd h (by decide)
theorem newT0 {T C : Nat} {σ : St} (hI : Inv T C σ) (hT : T ≤ 16) (h : (σ.2.2 14) < 16) : vp_in (σ.2.2 14) 16 := by
  rw [hI.2.1] at h ⊢
  have h2 : T < 16 := (nI_ltI (a := T) (b := 16) (by omega) (by decide)).mp h
  exact vp_in_nI (by omega) (by decide)
theorem newL0 {T C : Nat} {σ : St} (hI : Inv T C σ) (hT : T ≤ 16) (h : (σ.2.2 14) < 16) : T + 1 ≤ 16 := by
  rw [hI.2.1] at h
  exact (nI_ltI (a := T) (b := 16) (by omega) (by decide)).mp h
theorem newInv {T C : Nat} {σ τ : St} {c w : Int32} (hI : Inv T C σ) (hT : T ≤ 16) (hc : vp_in c 8) (hw : ¬ w < 1) (h0 : τ.1 0 = upd (σ.1 0) (ix (σ.2.2 14)) c) (h1 : τ.1 1 = upd (σ.1 1) (ix (σ.2.2 14)) w) (h14 : τ.2.2 14 = σ.2.2 14 + 1) (h13 : τ.2.2 13 = σ.2.2 13) : Inv (T + 1) C τ := by
  have e : ix (σ.2.2 14) = T := by rw [hI.2.1]; exact nI_clamp (by omega)
  rw [e] at h0 h1
  refine ⟨fun k => ?_, by rw [h14, hI.2.1]; exact nI_1 T, by rw [h13]; exact hI.2.2.1, fun k hk => ?_⟩
  · rw [h0]
    unfold upd
    split
    · exact hc
    · exact hI.1 k
  · rw [h1]
    unfold upd
    split
    · exact hw
    · exact hI.2.2.2 k (by omega)
theorem tkN0 {t : Int32} (c1 : ¬ t < 1) (c3 : t ≤ 100) : t = nI (ix t) ∧ ix t ≤ 100 := by
  have c4 : ¬ t < 0 := by
    intro q
    apply c1
    rw [Int32.lt_iff_toInt_lt] at q ⊢
    have z0 : (0 : Int32).toInt = 0 := rfl
    have z1 : (1 : Int32).toInt = 1 := rfl
    omega
  obtain ⟨j, hj, rfl⟩ := nI_of2 (M := 100) (n := 100) rfl c4 c3
  have e : ix (nI j) = j := nI_clamp (by omega)
  rw [e]
  exact ⟨rfl, hj⟩
def f_X0_reset (T C : Nat) (σ : St) (n9 : Int32) : Int32 := (σ.2.2 13)
def g_X0_reset (T C : Nat) (σ : St) (n9 : Int32) : St := (g_X0_startAnew T C σ n9)
def e_X0_reset (T C : Nat) (σ : St) (n9 : Int32) : Int32 := (if n9 < 1 then 1 else (if n9 ≤ 4 then 0 else 1))
def rm_X0_reset : Room := { frames := 1, cells := 0, slots := 0, locals := 22 }
set_option maxHeartbeats 400000 in
set_option maxRecDepth 100000 in
theorem k_X0_reset (l : Launch) (E : Ev) (q : Nat → Nat) (hq : Dq q) {T C : Nat} (hT : T ≤ 16) (hC : 1 ≤ C ∧ C ≤ 4) (σ : St) (hI : Inv T C σ) (n9 : Int32) (he : (e_X0_reset T C σ n9) = 0) : WI l 0 E q σ yX0_reset cX0_reset 3 (some .int) rm_X0_reset [.int n9] (f_X0_reset T C σ n9) (g_X0_reset T C σ n9) True := by
  refine Met.ofB (by decide) (Nat.le_of_ble_eq_true rfl) (fun p e s m args below meth c ls Q B hQ hPK hl => ?_)
  obtain ⟨hx, hb, hml, hr, hlocks, hown, hts⟩ := B
  have S0 : Fx p m c cX0_reset 3 s args RX0 := ⟨hx, hb, hml, hown, hts⟩
  obtain ⟨hP, hK⟩ := hPK
  suffices KH : ∀ (H : Heap) (locs : List Loc), PP 0 E q σ H → va_S (Aq q) s.heap H locs → W p l e rm_X0_reset s m args below meth c H locs 0 0 Q (F0 m 0 ls []) from KH s.heap [] hP va_S.rf
  intro H locs hP hS
  have hl : lv_has ls 3 [(0, .ref (q 0)), (1, .int n9)] := hl
  have hI0 := hI
  refine lv_iload_n hx hb dX0_reset_0 rfl (lv_at hl 1 rfl) ?_
  refine lv_iconst (v := 1) hx hb dX0_reset_1 (by decide) ?_
  refine lv_icmp_lt (tgt := 10) hx hb dX0_reset_2 (by decide) (fun h2 => ?_) (fun h2 => ?_)
  · skip
    exact absurd (Eq.trans (Eq.symm (show (e_X0_reset T C σ n9) = 1 from (if_pos h2))) he) (by decide)
  · skip
    refine lv_iload_n hx hb dX0_reset_5 rfl (lv_at hl 1 rfl) ?_
    refine lv_iconst (v := 4) hx hb dX0_reset_6 (by decide) ?_
    refine lv_icmp_le (tgt := 20) hx hb dX0_reset_7 (by decide) (fun h7 => ?_) (fun h7 => ?_)
    · skip
      refine lv_aload_n hx hb dX0_reset_20 rfl (lv_at hl 0 rfl) ?_
      refine gf_X0_62 hx hb hts hown hK hP dX0_reset_21 ?_
      refine lv_istore_n (lv' := [(2, .int (σ.2.2 13)), (0, .ref (q 0)), (1, .int n9)]) hx hb dX0_reset_24 rfl hl (by decide) rfl (fun ls hl => ?_)
      refine lv_aload_n hx hb dX0_reset_25 rfl (lv_at hl 1 rfl) ?_
      refine lv_iload_n hx hb dX0_reset_26 rfl (lv_at hl 2 rfl) ?_
      refine cl_WV (k_X0_startAnew l E q hq hT hC σ n9 ) gw_X0_51 hd_X0_startAnew ⟨rfl, rfl⟩ S0 hK hP hS (rest := []) rfl hl.1 (Nat.le_of_ble_eq_true rfl) ⟨(Nat.le_of_ble_eq_true rfl), (Nat.le_of_ble_eq_true rfl)⟩ ⟨Nat.zero_le _, Nat.zero_le _⟩ dX0_reset_27 (fun H locs hP hS hex => ?_)
      refine lv_iload_n hx hb dX0_reset_30 rfl (lv_at hl 0 rfl) ?_
      exact rt_WI hQ hx hb hr hlocks (Eq.subst (motive := fun z => PP 0 E q z H) (show (g_X0_startAnew T C σ n9) = (g_X0_reset T C σ n9) from rfl) hP) hS ⟨rfl, trivial⟩ dX0_reset_31
    · skip
      exact absurd (Eq.trans (Eq.symm (show (e_X0_reset T C σ n9) = 1 from (Eq.trans (if_neg h2) (if_neg h7)))) he) (by decide)
def rt_X0_reset : Room := { frames := 6, cells := 1, slots := 6, locals := 82 }
set_option maxHeartbeats 400000 in
set_option maxRecDepth 100000 in
theorem t_X0_reset (l : Launch) (hst : l.stackTraces = false) (E : Ev) (q : Nat → Nat) (hq : Dq q) {T C : Nat} (hT : T ≤ 16) (hC : 1 ≤ C ∧ C ≤ 4) (σ : St) (hI : Inv T C σ) (n9 : Int32) (he : ¬ (e_X0_reset T C σ n9) = 0) : TX l E q σ yX0_reset cX0_reset 3 (some .int) rt_X0_reset [.int n9] xISE (e_X0_reset T C σ n9) := by
  refine vx_ofB (by decide) (Nat.le_of_ble_eq_true rfl) (fun p e s m args below meth c ls Q B hta hQ hPK hl => ?_)
  obtain ⟨hx, hb, hml, hr, hlocks, hown, hts⟩ := B
  have S0 : Fx p m c cX0_reset 3 s args RX0 := ⟨hx, hb, hml, hown, hts⟩
  obtain ⟨hP, hK, hX⟩ := hPK
  have hl : lv_has ls 3 [(0, .ref (q 0)), (1, .int n9)] := hl
  have hI0 := hI
  refine lv_iload_n hx hb dX0_reset_0 rfl (lv_at hl 1 rfl) ?_
  refine lv_iconst (v := 1) hx hb dX0_reset_1 (by decide) ?_
  refine lv_icmp_lt (tgt := 10) hx hb dX0_reset_2 (by decide) (fun h2 => ?_) (fun h2 => ?_)
  · skip
    exact tx_new (cls := xIAE) (text := "cores is out of range") (ik := 55) (is := 57) (ic := 59) hQ hx hb hst hown hts hX hta hlocks (by decide) cl_X0_55 ini_IllegalArgumentException (by decide) at_IAE ng_IAE ot_IAE (hl.1.trans hml.symm) dX0_reset_10 dX0_reset_13 dX0_reset_14 dX0_reset_16 dX0_reset_19 (Nat.le_of_ble_eq_true rfl) (Nat.le_of_ble_eq_true rfl) ⟨(Nat.le_of_ble_eq_true rfl), (Nat.le_of_ble_eq_true rfl)⟩ (xn1 (show (e_X0_reset T C σ n9) = 1 from (if_pos h2)))
  · skip
    refine lv_iload_n hx hb dX0_reset_5 rfl (lv_at hl 1 rfl) ?_
    refine lv_iconst (v := 4) hx hb dX0_reset_6 (by decide) ?_
    refine lv_icmp_le (tgt := 20) hx hb dX0_reset_7 (by decide) (fun h7 => ?_) (fun h7 => ?_)
    · skip
      exact absurd (show (e_X0_reset T C σ n9) = 0 from (Eq.trans (if_neg h2) (if_pos h7))) he
    · skip
      exact tx_new (cls := xIAE) (text := "cores is out of range") (ik := 55) (is := 57) (ic := 59) hQ hx hb hst hown hts hX hta hlocks (by decide) cl_X0_55 ini_IllegalArgumentException (by decide) at_IAE ng_IAE ot_IAE (hl.1.trans hml.symm) dX0_reset_10 dX0_reset_13 dX0_reset_14 dX0_reset_16 dX0_reset_19 (Nat.le_of_ble_eq_true rfl) (Nat.le_of_ble_eq_true rfl) ⟨(Nat.le_of_ble_eq_true rfl), (Nat.le_of_ble_eq_true rfl)⟩ (xn1 (show (e_X0_reset T C σ n9) = 1 from (Eq.trans (if_neg h2) (if_neg h7))))
def F_X0_tick_25 (T : Nat) (C : Nat) : Nat → (Int32 × St) → (Int32 × St) := fun i_25 z => (((z.1) + (f_X0_simulateTick T C (z.2))), (g_X0_simulateTick T C (z.2)))
def f_X0_tick (T C : Nat) (σ : St) (t9 : Int32) : Int32 := ((lp (F_X0_tick_25 T C) (ix t9) 0 (0, σ)).1)
def g_X0_tick (T C : Nat) (σ : St) (t9 : Int32) : St := ((lp (F_X0_tick_25 T C) (ix t9) 0 (0, σ)).2)
def e_X0_tick (T C : Nat) (σ : St) (t9 : Int32) : Int32 := (if t9 < 1 then 1 else (if t9 ≤ 100 then 0 else 1))
def rm_X0_tick : Room := { frames := 7, cells := 0, slots := 0, locals := 160 }
set_option maxHeartbeats 400000 in
set_option maxRecDepth 100000 in
theorem k_X0_tick (l : Launch) (E : Ev) (q : Nat → Nat) (hq : Dq q) {T C : Nat} (hT : T ≤ 16) (hC : 1 ≤ C ∧ C ≤ 4) (σ : St) (hI : Inv T C σ) (t9 : Int32) (he : (e_X0_tick T C σ t9) = 0) : WI l 0 E q σ yX0_tick cX0_tick 4 (some .int) rm_X0_tick [.int t9] (f_X0_tick T C σ t9) (g_X0_tick T C σ t9) (Inv T C (g_X0_tick T C σ t9) ∧ True) := by
  refine Met.ofB (by decide) (Nat.le_of_ble_eq_true rfl) (fun p e s m args below meth c ls Q B hQ hPK hl => ?_)
  obtain ⟨hx, hb, hml, hr, hlocks, hown, hts⟩ := B
  have S0 : Fx p m c cX0_tick 4 s args RX0 := ⟨hx, hb, hml, hown, hts⟩
  obtain ⟨hP, hK⟩ := hPK
  suffices KH : ∀ (H : Heap) (locs : List Loc), PP 0 E q σ H → va_S (Aq q) s.heap H locs → W p l e rm_X0_tick s m args below meth c H locs 0 0 Q (F0 m 0 ls []) from KH s.heap [] hP va_S.rf
  intro H locs hP hS
  have hl : lv_has ls 4 [(0, .ref (q 0)), (1, .int t9)] := hl
  have hI0 := hI
  refine lv_iload_n hx hb dX0_tick_0 rfl (lv_at hl 1 rfl) ?_
  refine lv_iconst (v := 1) hx hb dX0_tick_1 (by decide) ?_
  refine lv_icmp_lt (tgt := 11) hx hb dX0_tick_2 (by decide) (fun h2 => ?_) (fun h2 => ?_)
  · skip
    exact absurd (Eq.trans (Eq.symm (show (e_X0_tick T C σ t9) = 1 from (if_pos h2))) he) (by decide)
  · skip
    refine lv_iload_n hx hb dX0_tick_5 rfl (lv_at hl 1 rfl) ?_
    refine lv_bipush (v := 100) hx hb dX0_tick_6 (by decide) ?_
    refine lv_icmp_le (tgt := 21) hx hb dX0_tick_8 (by decide) (fun h8 => ?_) (fun h8 => ?_)
    · skip
      refine lv_iconst (v := 0) hx hb dX0_tick_21 (by decide) ?_
      refine lv_istore_n (lv' := [(2, .int 0), (0, .ref (q 0)), (1, .int t9)]) hx hb dX0_tick_22 rfl hl (by decide) rfl (fun ls hl => ?_)
      refine lv_iconst (v := 0) hx hb dX0_tick_23 (by decide) ?_
      refine lv_istore_n (lv' := [(3, .int 0), (2, .int 0), (0, .ref (q 0)), (1, .int t9)]) hx hb dX0_tick_24 rfl hl (by decide) rfl (fun ls hl => ?_)
      have htk := tkN0 h2 h8
      have L_25 : ∀ (n_25 i_25 : Nat) (a2_25 : Int32) (τ_25 : St) (ls : Array Slot) (H : Heap) (locs : List Loc), i_25 + n_25 = (ix t9) → lp (F_X0_tick_25 T C) n_25 i_25 (a2_25, τ_25) = (lp (F_X0_tick_25 T C) (ix t9) 0 (0, σ)) → Inv T C τ_25 → lv_has ls 4 [(3, .int (nI i_25)), (2, .int a2_25), (0, .ref (q 0)), (1, .int t9)] → PP 0 E q τ_25 H → va_S (Aq q) s.heap H locs → W p l e rm_X0_tick s m args below meth c H locs 0 0 Q (F0 m 25 ls []) := by
        intro n_25
        induction n_25 with
        | zero =>
          intro i_25 a2_25 τ_25 ls H locs hi_25 hres_25 hI hl hP hS
          have hres : (a2_25, τ_25) = (lp (F_X0_tick_25 T C) (ix t9) 0 (0, σ)) := hres_25
          have hr0 : a2_25 = ((lp (F_X0_tick_25 T C) (ix t9) 0 (0, σ)).1) := (congrArg Prod.fst hres)
          have hr1 : τ_25 = ((lp (F_X0_tick_25 T C) (ix t9) 0 (0, σ)).2) := (congrArg Prod.snd hres)
          clear hres hres_25
          subst hr0
          subst hr1
          refine lv_iload_n hx hb dX0_tick_25 rfl (lv_at hl 0 rfl) ?_
          refine lv_iload_n hx hb dX0_tick_26 rfl (lv_at hl 3 rfl) ?_
          refine lv_icmp_ge (tgt := 43) hx hb dX0_tick_27 (by decide) (fun _ => ?_) (fun h => absurd (lp_out htk.1 (by omega) hi_25) h)
          have hl := lv_sub (l' := [(2, .int ((lp (F_X0_tick_25 T C) (ix t9) 0 (0, σ)).1)), (0, .ref (q 0)), (1, .int t9)]) hl [1, 2, 3] rfl
          refine lv_iload_n hx hb dX0_tick_43 rfl (lv_at hl 0 rfl) ?_
          exact rt_WI hQ hx hb hr hlocks (Eq.subst (motive := fun z => PP 0 E q z H) (show ((lp (F_X0_tick_25 T C) (ix t9) 0 (0, σ)).2) = (g_X0_tick T C σ t9) from rfl) hP) hS ⟨rfl, ⟨Eq.subst (motive := fun z => Inv T C z) (show ((lp (F_X0_tick_25 T C) (ix t9) 0 (0, σ)).2) = (g_X0_tick T C σ t9) from rfl) hI, trivial⟩⟩ dX0_tick_44
        | succ n_25 ih_25 =>
          intro i_25 a2_25 τ_25 ls H locs hi_25 hres_25 hI hl hP hS
          refine lv_iload_n hx hb dX0_tick_25 rfl (lv_at hl 0 rfl) ?_
          refine lv_iload_n hx hb dX0_tick_26 rfl (lv_at hl 3 rfl) ?_
          refine lv_icmp_ge (tgt := 43) hx hb dX0_tick_27 (by decide) (fun h => absurd h (lp_in htk.1 (by omega) hi_25)) (fun _ => ?_)
          refine lv_iload_n hx hb dX0_tick_30 rfl (lv_at hl 1 rfl) ?_
          refine lv_aload_n hx hb dX0_tick_31 rfl (lv_at hl 2 rfl) ?_
          refine cl_WI (k_X0_simulateTick l E q hq hT hC τ_25 hI ) gw_X0_72 hd_X0_simulateTick ⟨rfl, rfl⟩ S0 hK hP hS (rest := [.int a2_25]) rfl hl.1 (Nat.le_of_ble_eq_true rfl) ⟨(Nat.le_of_ble_eq_true rfl), (Nat.le_of_ble_eq_true rfl)⟩ ⟨Nat.zero_le _, Nat.zero_le _⟩ dX0_tick_32 (fun H locs hP hS hex => ?_)
          obtain ⟨hI, -⟩ := hex
          refine lv_iadd hx hb dX0_tick_35 ?_
          refine lv_istore_n (lv' := [(2, .int (a2_25 + (f_X0_simulateTick T C τ_25))), (3, .int (nI i_25)), (0, .ref (q 0)), (1, .int t9)]) hx hb dX0_tick_36 rfl hl (by decide) rfl (fun ls hl => ?_)
          refine lv_iinc (v := (nI (i_25 + 1))) (lv' := [(3, .int (nI (i_25 + 1))), (2, .int (a2_25 + (f_X0_simulateTick T C τ_25))), (0, .ref (q 0)), (1, .int t9)]) hx hb dX0_tick_37 hl (k := 1) rfl (nI_1 _) (by decide) rfl (fun ls hl => ?_)
          refine lv_goto (tgt := 25) hx hb dX0_tick_40 (by decide) ?_
          exact ih_25 (i_25 + 1) (a2_25 + (f_X0_simulateTick T C τ_25)) (g_X0_simulateTick T C τ_25) ls H locs (by omega) hres_25 (Eq.subst (motive := fun z => Inv T C z) (show (g_X0_simulateTick T C τ_25) = (g_X0_simulateTick T C τ_25) from rfl) hI) (lv_sub (l' := [(3, .int (nI (i_25 + 1))), (2, .int (a2_25 + (f_X0_simulateTick T C τ_25))), (0, .ref (q 0)), (1, .int t9)]) hl [0, 1, 2, 3] rfl) (Eq.subst (motive := fun z => PP 0 E q z H) (show (g_X0_simulateTick T C τ_25) = (g_X0_simulateTick T C τ_25) from rfl) hP) hS
      exact L_25 (ix t9) 0 0 σ ls H locs (Nat.zero_add _) rfl hI (lv_sub hl [0, 1, 2, 3] rfl) hP hS
    · skip
      exact absurd (Eq.trans (Eq.symm (show (e_X0_tick T C σ t9) = 1 from (Eq.trans (if_neg h2) (if_neg h8)))) he) (by decide)
def rt_X0_tick : Room := { frames := 7, cells := 1, slots := 6, locals := 160 }
set_option maxHeartbeats 400000 in
set_option maxRecDepth 100000 in
theorem t_X0_tick (l : Launch) (hst : l.stackTraces = false) (E : Ev) (q : Nat → Nat) (hq : Dq q) {T C : Nat} (hT : T ≤ 16) (hC : 1 ≤ C ∧ C ≤ 4) (σ : St) (hI : Inv T C σ) (t9 : Int32) (he : ¬ (e_X0_tick T C σ t9) = 0) : TX l E q σ yX0_tick cX0_tick 4 (some .int) rt_X0_tick [.int t9] xISE (e_X0_tick T C σ t9) := by
  refine vx_ofB (by decide) (Nat.le_of_ble_eq_true rfl) (fun p e s m args below meth c ls Q B hta hQ hPK hl => ?_)
  obtain ⟨hx, hb, hml, hr, hlocks, hown, hts⟩ := B
  have S0 : Fx p m c cX0_tick 4 s args RX0 := ⟨hx, hb, hml, hown, hts⟩
  obtain ⟨hP, hK, hX⟩ := hPK
  have hl : lv_has ls 4 [(0, .ref (q 0)), (1, .int t9)] := hl
  have hI0 := hI
  refine lv_iload_n hx hb dX0_tick_0 rfl (lv_at hl 1 rfl) ?_
  refine lv_iconst (v := 1) hx hb dX0_tick_1 (by decide) ?_
  refine lv_icmp_lt (tgt := 11) hx hb dX0_tick_2 (by decide) (fun h2 => ?_) (fun h2 => ?_)
  · skip
    exact tx_new (cls := xIAE) (text := "ticks is out of range") (ik := 55) (is := 70) (ic := 59) hQ hx hb hst hown hts hX hta hlocks (by decide) cl_X0_55 ini_IllegalArgumentException (by decide) at_IAE ng_IAE ot_IAE (hl.1.trans hml.symm) dX0_tick_11 dX0_tick_14 dX0_tick_15 dX0_tick_17 dX0_tick_20 (Nat.le_of_ble_eq_true rfl) (Nat.le_of_ble_eq_true rfl) ⟨(Nat.le_of_ble_eq_true rfl), (Nat.le_of_ble_eq_true rfl)⟩ (xn1 (show (e_X0_tick T C σ t9) = 1 from (if_pos h2)))
  · skip
    refine lv_iload_n hx hb dX0_tick_5 rfl (lv_at hl 1 rfl) ?_
    refine lv_bipush (v := 100) hx hb dX0_tick_6 (by decide) ?_
    refine lv_icmp_le (tgt := 21) hx hb dX0_tick_8 (by decide) (fun h8 => ?_) (fun h8 => ?_)
    · skip
      exact absurd (show (e_X0_tick T C σ t9) = 0 from (Eq.trans (if_neg h2) (if_pos h8))) he
    · skip
      exact tx_new (cls := xIAE) (text := "ticks is out of range") (ik := 55) (is := 70) (ic := 59) hQ hx hb hst hown hts hX hta hlocks (by decide) cl_X0_55 ini_IllegalArgumentException (by decide) at_IAE ng_IAE ot_IAE (hl.1.trans hml.symm) dX0_tick_11 dX0_tick_14 dX0_tick_15 dX0_tick_17 dX0_tick_20 (Nat.le_of_ble_eq_true rfl) (Nat.le_of_ble_eq_true rfl) ⟨(Nat.le_of_ble_eq_true rfl), (Nat.le_of_ble_eq_true rfl)⟩ (xn1 (show (e_X0_tick T C σ t9) = 1 from (Eq.trans (if_neg h2) (if_neg h8))))
def f_X0_createTask (T C : Nat) (σ : St) (c9 : Int32) (w9 : Int32) (k9 : Int32) : Int32 := (σ.2.2 14)
def g_X0_createTask (T C : Nat) (σ : St) (c9 : Int32) (w9 : Int32) (k9 : Int32) : St := (g_X0_enterQueue (T + 1) C (sI (sI (sJ (sI (sI (sI (sS σ 14 ((σ.2.2 14) + 1)) 0 (ix (σ.2.2 14)) c9) 1 (ix (σ.2.2 14)) w9) 2 (ix (σ.2.2 14)) k9) 4 (ix (σ.2.2 14)) 0) 5 (ix (σ.2.2 14)) 0) 6 (ix (σ.2.2 14)) 0) (σ.2.2 14))
def e_X0_createTask (T C : Nat) (σ : St) (c9 : Int32) (w9 : Int32) (k9 : Int32) : Int32 := (if (e_X0_checkCpu T C σ c9) = 0 then (if (e_X0_checkWeight w9) = 0 then (if (e_X0_checkCookie k9) = 0 then (if (σ.2.2 14) < 16 then 0 else 2) else 1) else 1) else 1)
def rm_X0_createTask : Room := { frames := 2, cells := 0, slots := 0, locals := 44 }
set_option maxHeartbeats 400000 in
set_option maxRecDepth 100000 in
theorem k_X0_createTask (l : Launch) (E : Ev) (q : Nat → Nat) (hq : Dq q) {T C : Nat} (hT : T ≤ 16) (hC : 1 ≤ C ∧ C ≤ 4) (σ : St) (hI : Inv T C σ) (c9 : Int32) (w9 : Int32) (k9 : Int32) (he : (e_X0_createTask T C σ c9 w9 k9) = 0) : WI l 0 E q σ yX0_createTask cX0_createTask 5 (some .int) rm_X0_createTask [.int c9, .int w9, .int k9] (f_X0_createTask T C σ c9 w9 k9) (g_X0_createTask T C σ c9 w9 k9) True := by
  refine Met.ofB (by decide) (Nat.le_of_ble_eq_true rfl) (fun p e s m args below meth c ls Q B hQ hPK hl => ?_)
  obtain ⟨hx, hb, hml, hr, hlocks, hown, hts⟩ := B
  have S0 : Fx p m c cX0_createTask 5 s args RX0 := ⟨hx, hb, hml, hown, hts⟩
  obtain ⟨hP, hK⟩ := hPK
  suffices KH : ∀ (H : Heap) (locs : List Loc), PP 0 E q σ H → va_S (Aq q) s.heap H locs → W p l e rm_X0_createTask s m args below meth c H locs 0 0 Q (F0 m 0 ls []) from KH s.heap [] hP va_S.rf
  intro H locs hP hS
  have hl : lv_has ls 5 [(0, .ref (q 0)), (1, .int c9), (2, .int w9), (3, .int k9)] := hl
  have hI0 := hI
  refine lv_aload_n hx hb dX0_createTask_0 rfl (lv_at hl 0 rfl) ?_
  refine lv_iload_n hx hb dX0_createTask_1 rfl (lv_at hl 1 rfl) ?_
  by_cases hc2 : (e_X0_checkCpu T C σ c9) = 0
  · skip
    refine cl_RV (k_X0_checkCpu l E q hq hT hC σ hI c9  hc2) gw_X0_76 hd_X0_checkCpu ⟨rfl, rfl⟩ S0 hK hP (rest := []) rfl hl.1 (Nat.le_of_ble_eq_true rfl) ⟨(Nat.le_of_ble_eq_true rfl), (Nat.le_of_ble_eq_true rfl)⟩ ⟨Nat.zero_le _, Nat.zero_le _⟩ dX0_createTask_2 (fun _ => ?_)
    refine lv_iload_n hx hb dX0_createTask_5 rfl (lv_at hl 2 rfl) ?_
    by_cases hc6 : (e_X0_checkWeight w9) = 0
    · skip
      refine cl_NV (k_X0_checkWeight l w9 hc6) gw_X0_79 hd_X0_checkWeight ⟨rfl, rfl⟩ S0 (rest := []) rfl hl.1 (Nat.le_of_ble_eq_true rfl) ⟨(Nat.le_of_ble_eq_true rfl), (Nat.le_of_ble_eq_true rfl)⟩ ⟨Nat.zero_le _, Nat.zero_le _⟩ dX0_createTask_6 ?_
      refine lv_iload_n hx hb dX0_createTask_9 rfl (lv_at hl 3 rfl) ?_
      by_cases hc10 : (e_X0_checkCookie k9) = 0
      · skip
        refine cl_NV (k_X0_checkCookie l k9 hc10) gw_X0_82 hd_X0_checkCookie ⟨rfl, rfl⟩ S0 (rest := []) rfl hl.1 (Nat.le_of_ble_eq_true rfl) ⟨(Nat.le_of_ble_eq_true rfl), (Nat.le_of_ble_eq_true rfl)⟩ ⟨Nat.zero_le _, Nat.zero_le _⟩ dX0_createTask_10 ?_
        refine lv_aload_n hx hb dX0_createTask_13 rfl (lv_at hl 0 rfl) ?_
        refine gf_X0_85 hx hb hts hown hK hP dX0_createTask_14 ?_
        refine lv_bipush (v := 16) hx hb dX0_createTask_17 (by decide) ?_
        refine lv_icmp_lt (tgt := 32) hx hb dX0_createTask_19 (by decide) (fun h19 => ?_) (fun h19 => ?_)
        · skip
          refine lv_aload_n hx hb dX0_createTask_32 rfl (lv_at hl 0 rfl) ?_
          refine gf_X0_85 hx hb hts hown hK hP dX0_createTask_33 ?_
          refine lv_istore (lv' := [(4, .int (σ.2.2 14)), (0, .ref (q 0)), (1, .int c9), (2, .int w9), (3, .int k9)]) hx hb dX0_createTask_36 hl (by decide) rfl (fun ls hl => ?_)
          refine lv_aload_n hx hb dX0_createTask_38 rfl (lv_at hl 1 rfl) ?_
          refine lv_dup hx hb dX0_createTask_39 rfl ?_
          refine gf_X0_85 hx hb hts hown hK hP dX0_createTask_40 ?_
          refine lv_iconst (v := 1) hx hb dX0_createTask_43 (by decide) ?_
          refine lv_iadd hx hb dX0_createTask_44 ?_
          refine pf_X0_85 hx hb hts hown hK hq hP hS dX0_createTask_45 (fun H locs hP hS => ?_)
          refine lv_aload_n hx hb dX0_createTask_48 rfl (lv_at hl 1 rfl) ?_
          refine gf_X0_9 hx hb hts hown hK hP dX0_createTask_49 ?_
          refine lv_iload hx hb dX0_createTask_52 (lv_at hl 0 rfl) ?_
          refine lv_iload_n hx hb dX0_createTask_54 rfl (lv_at hl 2 rfl) ?_
          refine st_0 hx hb hK hq hP hS (newT0 hI0 hT h19) dX0_createTask_55 (fun H locs hP hS => ?_)
          refine lv_aload_n hx hb dX0_createTask_56 rfl (lv_at hl 1 rfl) ?_
          refine gf_X0_13 hx hb hts hown hK hP dX0_createTask_57 ?_
          refine lv_iload hx hb dX0_createTask_60 (lv_at hl 0 rfl) ?_
          refine lv_iload_n hx hb dX0_createTask_62 rfl (lv_at hl 3 rfl) ?_
          refine st_1 hx hb hK hq hP hS (newT0 hI0 hT h19) dX0_createTask_63 (fun H locs hP hS => ?_)
          refine lv_aload_n hx hb dX0_createTask_64 rfl (lv_at hl 1 rfl) ?_
          refine gf_X0_16 hx hb hts hown hK hP dX0_createTask_65 ?_
          refine lv_iload hx hb dX0_createTask_68 (lv_at hl 0 rfl) ?_
          refine lv_iload_n hx hb dX0_createTask_70 rfl (lv_at hl 4 rfl) ?_
          refine st_2 hx hb hK hq hP hS (newT0 hI0 hT h19) dX0_createTask_71 (fun H locs hP hS => ?_)
          refine lv_aload_n hx hb dX0_createTask_72 rfl (lv_at hl 1 rfl) ?_
          refine gf_X0_22 hx hb hts hown hK hP dX0_createTask_73 ?_
          refine lv_iload hx hb dX0_createTask_76 (lv_at hl 0 rfl) ?_
          refine lv_lconst (v := 0) hx hb dX0_createTask_78 (by decide) ?_
          refine st_4 hx hb hK hq hP hS (newT0 hI0 hT h19) dX0_createTask_79 (fun H locs hP hS => ?_)
          refine lv_aload_n hx hb dX0_createTask_80 rfl (lv_at hl 1 rfl) ?_
          refine gf_X0_26 hx hb hts hown hK hP dX0_createTask_81 ?_
          refine lv_iload hx hb dX0_createTask_84 (lv_at hl 0 rfl) ?_
          refine lv_iconst (v := 0) hx hb dX0_createTask_86 (by decide) ?_
          refine st_5 hx hb hK hq hP hS (newT0 hI0 hT h19) dX0_createTask_87 (fun H locs hP hS => ?_)
          refine lv_aload_n hx hb dX0_createTask_88 rfl (lv_at hl 1 rfl) ?_
          refine gf_X0_29 hx hb hts hown hK hP dX0_createTask_89 ?_
          refine lv_iload hx hb dX0_createTask_92 (lv_at hl 0 rfl) ?_
          refine lv_iconst (v := 0) hx hb dX0_createTask_94 (by decide) ?_
          refine st_6 hx hb hK hq hP hS (newT0 hI0 hT h19) dX0_createTask_95 (fun H locs hP hS => ?_)
          refine lv_aload_n hx hb dX0_createTask_96 rfl (lv_at hl 1 rfl) ?_
          refine lv_iload hx hb dX0_createTask_97 (lv_at hl 0 rfl) ?_
          have hI1 : Inv (T + 1) C (sI (sI (sJ (sI (sI (sI (sS σ 14 ((σ.2.2 14) + 1)) 0 (ix (σ.2.2 14)) c9) 1 (ix (σ.2.2 14)) w9) 2 (ix (σ.2.2 14)) k9) 4 (ix (σ.2.2 14)) 0) 5 (ix (σ.2.2 14)) 0) 6 (ix (σ.2.2 14)) 0) := newInv hI0 hT (inC0 hI0 hC hc2) (inW0 hc6) rfl rfl rfl rfl
          refine cl_WV (k_X0_enterQueue l E q hq (newL0 hI0 hT h19) hC (sI (sI (sJ (sI (sI (sI (sS σ 14 ((σ.2.2 14) + 1)) 0 (ix (σ.2.2 14)) c9) 1 (ix (σ.2.2 14)) w9) 2 (ix (σ.2.2 14)) k9) 4 (ix (σ.2.2 14)) 0) 5 (ix (σ.2.2 14)) 0) 6 (ix (σ.2.2 14)) 0) hI1 (σ.2.2 14) (newT0 hI0 hT h19)) gw_X0_93 hd_X0_enterQueue ⟨rfl, rfl⟩ S0 hK hP hS (rest := []) rfl hl.1 (Nat.le_of_ble_eq_true rfl) ⟨(Nat.le_of_ble_eq_true rfl), (Nat.le_of_ble_eq_true rfl)⟩ ⟨Nat.zero_le _, Nat.zero_le _⟩ dX0_createTask_99 (fun H locs hP hS hex => ?_)
          refine lv_iload hx hb dX0_createTask_102 (lv_at hl 0 rfl) ?_
          exact rt_WI hQ hx hb hr hlocks (Eq.subst (motive := fun z => PP 0 E q z H) (show (g_X0_enterQueue (T + 1) C (sI (sI (sJ (sI (sI (sI (sS σ 14 ((σ.2.2 14) + 1)) 0 (ix (σ.2.2 14)) c9) 1 (ix (σ.2.2 14)) w9) 2 (ix (σ.2.2 14)) k9) 4 (ix (σ.2.2 14)) 0) 5 (ix (σ.2.2 14)) 0) 6 (ix (σ.2.2 14)) 0) (σ.2.2 14)) = (g_X0_createTask T C σ c9 w9 k9) from rfl) hP) hS ⟨rfl, trivial⟩ dX0_createTask_104
        · skip
          exact absurd (Eq.trans (Eq.symm (show (e_X0_createTask T C σ c9 w9 k9) = 2 from (Eq.trans (Eq.trans (Eq.trans (if_pos hc2) (if_pos hc6)) (if_pos hc10)) (if_neg h19)))) he) (by decide)
      · skip
        exact absurd (Eq.trans (Eq.symm (show (e_X0_createTask T C σ c9 w9 k9) = 1 from (Eq.trans (Eq.trans (if_pos hc2) (if_pos hc6)) (if_neg hc10)))) he) (by decide)
    · skip
      exact absurd (Eq.trans (Eq.symm (show (e_X0_createTask T C σ c9 w9 k9) = 1 from (Eq.trans (if_pos hc2) (if_neg hc6)))) he) (by decide)
  · skip
    exact absurd (Eq.trans (Eq.symm (show (e_X0_createTask T C σ c9 w9 k9) = 1 from (if_neg hc2))) he) (by decide)
def rt_X0_createTask : Room := { frames := 7, cells := 1, slots := 6, locals := 103 }
set_option maxHeartbeats 400000 in
set_option maxRecDepth 100000 in
theorem t_X0_createTask (l : Launch) (hst : l.stackTraces = false) (E : Ev) (q : Nat → Nat) (hq : Dq q) {T C : Nat} (hT : T ≤ 16) (hC : 1 ≤ C ∧ C ≤ 4) (σ : St) (hI : Inv T C σ) (c9 : Int32) (w9 : Int32) (k9 : Int32) (he : ¬ (e_X0_createTask T C σ c9 w9 k9) = 0) : TX l E q σ yX0_createTask cX0_createTask 5 (some .int) rt_X0_createTask [.int c9, .int w9, .int k9] xISE (e_X0_createTask T C σ c9 w9 k9) := by
  refine vx_ofB (by decide) (Nat.le_of_ble_eq_true rfl) (fun p e s m args below meth c ls Q B hta hQ hPK hl => ?_)
  obtain ⟨hx, hb, hml, hr, hlocks, hown, hts⟩ := B
  have S0 : Fx p m c cX0_createTask 5 s args RX0 := ⟨hx, hb, hml, hown, hts⟩
  obtain ⟨hP, hK, hX⟩ := hPK
  have hl : lv_has ls 5 [(0, .ref (q 0)), (1, .int c9), (2, .int w9), (3, .int k9)] := hl
  have hI0 := hI
  refine lv_aload_n hx hb dX0_createTask_0 rfl (lv_at hl 0 rfl) ?_
  refine lv_iload_n hx hb dX0_createTask_1 rfl (lv_at hl 1 rfl) ?_
  by_cases hc2 : (e_X0_checkCpu T C σ c9) = 0
  · skip
    refine cl_RV (k_X0_checkCpu l E q hq hT hC σ hI c9  hc2) gw_X0_76 hd_X0_checkCpu ⟨rfl, rfl⟩ S0 hK hP (rest := []) rfl hl.1 (Nat.le_of_ble_eq_true rfl) ⟨(Nat.le_of_ble_eq_true rfl), (Nat.le_of_ble_eq_true rfl)⟩ ⟨Nat.zero_le _, Nat.zero_le _⟩ dX0_createTask_2 (fun _ => ?_)
    refine lv_iload_n hx hb dX0_createTask_5 rfl (lv_at hl 2 rfl) ?_
    by_cases hc6 : (e_X0_checkWeight w9) = 0
    · skip
      refine cl_NV (k_X0_checkWeight l w9 hc6) gw_X0_79 hd_X0_checkWeight ⟨rfl, rfl⟩ S0 (rest := []) rfl hl.1 (Nat.le_of_ble_eq_true rfl) ⟨(Nat.le_of_ble_eq_true rfl), (Nat.le_of_ble_eq_true rfl)⟩ ⟨Nat.zero_le _, Nat.zero_le _⟩ dX0_createTask_6 ?_
      refine lv_iload_n hx hb dX0_createTask_9 rfl (lv_at hl 3 rfl) ?_
      by_cases hc10 : (e_X0_checkCookie k9) = 0
      · skip
        refine cl_NV (k_X0_checkCookie l k9 hc10) gw_X0_82 hd_X0_checkCookie ⟨rfl, rfl⟩ S0 (rest := []) rfl hl.1 (Nat.le_of_ble_eq_true rfl) ⟨(Nat.le_of_ble_eq_true rfl), (Nat.le_of_ble_eq_true rfl)⟩ ⟨Nat.zero_le _, Nat.zero_le _⟩ dX0_createTask_10 ?_
        refine lv_aload_n hx hb dX0_createTask_13 rfl (lv_at hl 0 rfl) ?_
        refine gf_X0_85 hx hb hts hown hK hP dX0_createTask_14 ?_
        refine lv_bipush (v := 16) hx hb dX0_createTask_17 (by decide) ?_
        refine lv_icmp_lt (tgt := 32) hx hb dX0_createTask_19 (by decide) (fun h19 => ?_) (fun h19 => ?_)
        · skip
          exact absurd (show (e_X0_createTask T C σ c9 w9 k9) = 0 from (Eq.trans (Eq.trans (Eq.trans (if_pos hc2) (if_pos hc6)) (if_pos hc10)) (if_pos h19))) he
        · skip
          exact tx_new (cls := xISE) (text := "there are already 16 tasks") (ik := 88) (is := 90) (ic := 92) hQ hx hb hst hown hts hX hta hlocks (by decide) cl_X0_88 ini_IllegalStateException (by decide) at_ISE ng_ISE ot_ISE (hl.1.trans hml.symm) dX0_createTask_22 dX0_createTask_25 dX0_createTask_26 dX0_createTask_28 dX0_createTask_31 (Nat.le_of_ble_eq_true rfl) (Nat.le_of_ble_eq_true rfl) ⟨(Nat.le_of_ble_eq_true rfl), (Nat.le_of_ble_eq_true rfl)⟩ (xn2 (show (e_X0_createTask T C σ c9 w9 k9) = 2 from (Eq.trans (Eq.trans (Eq.trans (if_pos hc2) (if_pos hc6)) (if_pos hc10)) (if_neg h19))))
      · skip
        exact cx_S hQ (t_X0_checkCookie l hst q k9 hc10) gw_X0_82 hd_X0_checkCookie ⟨rfl, rfl⟩ S0 hX hta hlocks (rest := []) rfl hl.1 (Nat.le_of_ble_eq_true rfl) ⟨(Nat.le_of_ble_eq_true rfl), (Nat.le_of_ble_eq_true rfl)⟩ ⟨(Nat.le_of_ble_eq_true rfl), (Nat.le_of_ble_eq_true rfl)⟩ dX0_createTask_10 (xnc (ck_X0_checkCookie hc10) (show (e_X0_createTask T C σ c9 w9 k9) = 1 from (Eq.trans (Eq.trans (if_pos hc2) (if_pos hc6)) (if_neg hc10))) rfl)
    · skip
      exact cx_S hQ (t_X0_checkWeight l hst q w9 hc6) gw_X0_79 hd_X0_checkWeight ⟨rfl, rfl⟩ S0 hX hta hlocks (rest := []) rfl hl.1 (Nat.le_of_ble_eq_true rfl) ⟨(Nat.le_of_ble_eq_true rfl), (Nat.le_of_ble_eq_true rfl)⟩ ⟨(Nat.le_of_ble_eq_true rfl), (Nat.le_of_ble_eq_true rfl)⟩ dX0_createTask_6 (xnc (ck_X0_checkWeight hc6) (show (e_X0_createTask T C σ c9 w9 k9) = 1 from (Eq.trans (if_pos hc2) (if_neg hc6))) rfl)
  · skip
    exact cx_V hQ (t_X0_checkCpu l hst E q hq hT hC σ hI c9  hc2) gw_X0_76 hd_X0_checkCpu ⟨rfl, rfl⟩ S0 hK hP hX hta hlocks (rest := []) rfl hl.1 (Nat.le_of_ble_eq_true rfl) ⟨(Nat.le_of_ble_eq_true rfl), (Nat.le_of_ble_eq_true rfl)⟩ ⟨(Nat.le_of_ble_eq_true rfl), (Nat.le_of_ble_eq_true rfl)⟩ dX0_createTask_2 (xnc (ck_X0_checkCpu hc2) (show (e_X0_createTask T C σ c9 w9 k9) = 1 from (if_neg hc2)) rfl)
def f_X0_sleep (T C : Nat) (σ : St) (t : Int32) : Int32 := (f_X0_stopTask T C σ t 2)
def g_X0_sleep (T C : Nat) (σ : St) (t : Int32) : St := (g_X0_stopTask T C σ t 2)
def e_X0_sleep (T C : Nat) (σ : St) (t : Int32) : Int32 := (if (e_X0_checkTask T C σ t) = 0 then (if (f_X0_isRunnable T C σ t) = 0 then 2 else 0) else 1)
def rm_X0_sleep : Room := { frames := 1, cells := 0, slots := 0, locals := 23 }
set_option maxHeartbeats 400000 in
set_option maxRecDepth 100000 in
theorem k_X0_sleep (l : Launch) (E : Ev) (q : Nat → Nat) (hq : Dq q) {T C : Nat} (hT : T ≤ 16) (hC : 1 ≤ C ∧ C ≤ 4) (σ : St) (hI : Inv T C σ) (t : Int32) (he : (e_X0_sleep T C σ t) = 0) : WI l 0 E q σ yX0_sleep cX0_sleep 2 (some .int) rm_X0_sleep [.int t] (f_X0_sleep T C σ t) (g_X0_sleep T C σ t) (Inv T C (g_X0_sleep T C σ t) ∧ True) := by
  refine Met.ofB (by decide) (Nat.le_of_ble_eq_true rfl) (fun p e s m args below meth c ls Q B hQ hPK hl => ?_)
  obtain ⟨hx, hb, hml, hr, hlocks, hown, hts⟩ := B
  have S0 : Fx p m c cX0_sleep 2 s args RX0 := ⟨hx, hb, hml, hown, hts⟩
  obtain ⟨hP, hK⟩ := hPK
  suffices KH : ∀ (H : Heap) (locs : List Loc), PP 0 E q σ H → va_S (Aq q) s.heap H locs → W p l e rm_X0_sleep s m args below meth c H locs 0 0 Q (F0 m 0 ls []) from KH s.heap [] hP va_S.rf
  intro H locs hP hS
  have hl : lv_has ls 2 [(0, .ref (q 0)), (1, .int t)] := hl
  have hI0 := hI
  refine lv_aload_n hx hb dX0_sleep_0 rfl (lv_at hl 0 rfl) ?_
  refine lv_iload_n hx hb dX0_sleep_1 rfl (lv_at hl 1 rfl) ?_
  by_cases hc2 : (e_X0_checkTask T C σ t) = 0
  · skip
    refine cl_RV (k_X0_checkTask l E q hq hT hC σ hI t  hc2) gw_X0_96 hd_X0_checkTask ⟨rfl, rfl⟩ S0 hK hP (rest := []) rfl hl.1 (Nat.le_of_ble_eq_true rfl) ⟨(Nat.le_of_ble_eq_true rfl), (Nat.le_of_ble_eq_true rfl)⟩ ⟨Nat.zero_le _, Nat.zero_le _⟩ dX0_sleep_2 (fun _ => ?_)
    refine lv_aload_n hx hb dX0_sleep_5 rfl (lv_at hl 0 rfl) ?_
    refine lv_iload_n hx hb dX0_sleep_6 rfl (lv_at hl 1 rfl) ?_
    refine cl_RI (k_X0_isRunnable l E q hq hT hC σ hI t (inT0 hI0 hT hc2)) gw_X0_99 hd_X0_isRunnable ⟨rfl, rfl⟩ S0 hK hP (rest := []) rfl hl.1 (Nat.le_of_ble_eq_true rfl) ⟨(Nat.le_of_ble_eq_true rfl), (Nat.le_of_ble_eq_true rfl)⟩ ⟨Nat.zero_le _, Nat.zero_le _⟩ dX0_sleep_7 (fun hex => ?_)
    refine lv_if_ne (tgt := 23) hx hb dX0_sleep_10 (by decide) (fun h10 => ?_) (fun h10 => ?_)
    · skip
      refine lv_aload_n hx hb dX0_sleep_23 rfl (lv_at hl 0 rfl) ?_
      refine lv_iload_n hx hb dX0_sleep_24 rfl (lv_at hl 1 rfl) ?_
      refine lv_iconst (v := 2) hx hb dX0_sleep_25 (by decide) ?_
      refine cl_WI (k_X0_stopTask l E q hq hT hC σ hI t 2 (inT0 hI0 hT hc2)) gw_X0_105 hd_X0_stopTask ⟨rfl, rfl⟩ S0 hK hP hS (rest := []) rfl hl.1 (Nat.le_of_ble_eq_true rfl) ⟨(Nat.le_of_ble_eq_true rfl), (Nat.le_of_ble_eq_true rfl)⟩ ⟨Nat.zero_le _, Nat.zero_le _⟩ dX0_sleep_26 (fun H locs hP hS hex => ?_)
      obtain ⟨hI, -⟩ := hex
      exact rt_WI hQ hx hb hr hlocks (Eq.subst (motive := fun z => PP 0 E q z H) (show (g_X0_stopTask T C σ t 2) = (g_X0_sleep T C σ t) from rfl) hP) hS ⟨rfl, ⟨Eq.subst (motive := fun z => Inv T C z) (show (g_X0_stopTask T C σ t 2) = (g_X0_sleep T C σ t) from rfl) hI, trivial⟩⟩ dX0_sleep_29
    · skip
      exact absurd (Eq.trans (Eq.symm (show (e_X0_sleep T C σ t) = 2 from (Eq.trans (if_pos hc2) (if_pos h10)))) he) (by decide)
  · skip
    exact absurd (Eq.trans (Eq.symm (show (e_X0_sleep T C σ t) = 1 from (if_neg hc2))) he) (by decide)
def rt_X0_sleep : Room := { frames := 7, cells := 1, slots := 6, locals := 103 }
set_option maxHeartbeats 400000 in
set_option maxRecDepth 100000 in
theorem t_X0_sleep (l : Launch) (hst : l.stackTraces = false) (E : Ev) (q : Nat → Nat) (hq : Dq q) {T C : Nat} (hT : T ≤ 16) (hC : 1 ≤ C ∧ C ≤ 4) (σ : St) (hI : Inv T C σ) (t : Int32) (he : ¬ (e_X0_sleep T C σ t) = 0) : TX l E q σ yX0_sleep cX0_sleep 2 (some .int) rt_X0_sleep [.int t] xISE (e_X0_sleep T C σ t) := by
  refine vx_ofB (by decide) (Nat.le_of_ble_eq_true rfl) (fun p e s m args below meth c ls Q B hta hQ hPK hl => ?_)
  obtain ⟨hx, hb, hml, hr, hlocks, hown, hts⟩ := B
  have S0 : Fx p m c cX0_sleep 2 s args RX0 := ⟨hx, hb, hml, hown, hts⟩
  obtain ⟨hP, hK, hX⟩ := hPK
  have hl : lv_has ls 2 [(0, .ref (q 0)), (1, .int t)] := hl
  have hI0 := hI
  refine lv_aload_n hx hb dX0_sleep_0 rfl (lv_at hl 0 rfl) ?_
  refine lv_iload_n hx hb dX0_sleep_1 rfl (lv_at hl 1 rfl) ?_
  by_cases hc2 : (e_X0_checkTask T C σ t) = 0
  · skip
    refine cl_RV (k_X0_checkTask l E q hq hT hC σ hI t  hc2) gw_X0_96 hd_X0_checkTask ⟨rfl, rfl⟩ S0 hK hP (rest := []) rfl hl.1 (Nat.le_of_ble_eq_true rfl) ⟨(Nat.le_of_ble_eq_true rfl), (Nat.le_of_ble_eq_true rfl)⟩ ⟨Nat.zero_le _, Nat.zero_le _⟩ dX0_sleep_2 (fun _ => ?_)
    refine lv_aload_n hx hb dX0_sleep_5 rfl (lv_at hl 0 rfl) ?_
    refine lv_iload_n hx hb dX0_sleep_6 rfl (lv_at hl 1 rfl) ?_
    refine cl_RI (k_X0_isRunnable l E q hq hT hC σ hI t (inT0 hI0 hT hc2)) gw_X0_99 hd_X0_isRunnable ⟨rfl, rfl⟩ S0 hK hP (rest := []) rfl hl.1 (Nat.le_of_ble_eq_true rfl) ⟨(Nat.le_of_ble_eq_true rfl), (Nat.le_of_ble_eq_true rfl)⟩ ⟨Nat.zero_le _, Nat.zero_le _⟩ dX0_sleep_7 (fun hex => ?_)
    refine lv_if_ne (tgt := 23) hx hb dX0_sleep_10 (by decide) (fun h10 => ?_) (fun h10 => ?_)
    · skip
      exact absurd (show (e_X0_sleep T C σ t) = 0 from (Eq.trans (if_pos hc2) (if_neg h10))) he
    · skip
      exact tx_new (cls := xISE) (text := "the task is not runnable") (ik := 88) (is := 103) (ic := 92) hQ hx hb hst hown hts hX hta hlocks (by decide) cl_X0_88 ini_IllegalStateException (by decide) at_ISE ng_ISE ot_ISE (hl.1.trans hml.symm) dX0_sleep_13 dX0_sleep_16 dX0_sleep_17 dX0_sleep_19 dX0_sleep_22 (Nat.le_of_ble_eq_true rfl) (Nat.le_of_ble_eq_true rfl) ⟨(Nat.le_of_ble_eq_true rfl), (Nat.le_of_ble_eq_true rfl)⟩ (xn2 (show (e_X0_sleep T C σ t) = 2 from (Eq.trans (if_pos hc2) (if_pos h10))))
  · skip
    exact cx_V hQ (t_X0_checkTask l hst E q hq hT hC σ hI t  hc2) gw_X0_96 hd_X0_checkTask ⟨rfl, rfl⟩ S0 hK hP hX hta hlocks (rest := []) rfl hl.1 (Nat.le_of_ble_eq_true rfl) ⟨(Nat.le_of_ble_eq_true rfl), (Nat.le_of_ble_eq_true rfl)⟩ ⟨(Nat.le_of_ble_eq_true rfl), (Nat.le_of_ble_eq_true rfl)⟩ dX0_sleep_2 (xnc (ck_X0_checkTask hc2) (show (e_X0_sleep T C σ t) = 1 from (if_neg hc2)) rfl)
def f_X0_wake (T C : Nat) (σ : St) (t : Int32) : Int64 := ((g_X0_enterQueue T C σ t).2.1 4 (ix t))
def g_X0_wake (T C : Nat) (σ : St) (t : Int32) : St := (g_X0_enterQueue T C σ t)
def e_X0_wake (T C : Nat) (σ : St) (t : Int32) : Int32 := (if (e_X0_checkTask T C σ t) = 0 then (if (σ.1 3 (ix t)) = 2 then 0 else 2) else 1)
def rm_X0_wake : Room := { frames := 2, cells := 0, slots := 0, locals := 44 }
set_option maxHeartbeats 400000 in
set_option maxRecDepth 100000 in
theorem k_X0_wake (l : Launch) (E : Ev) (q : Nat → Nat) (hq : Dq q) {T C : Nat} (hT : T ≤ 16) (hC : 1 ≤ C ∧ C ≤ 4) (σ : St) (hI : Inv T C σ) (t : Int32) (he : (e_X0_wake T C σ t) = 0) : WJ l 0 E q σ yX0_wake cX0_wake 2 (some .long) rm_X0_wake [.int t] (f_X0_wake T C σ t) (g_X0_wake T C σ t) (Inv T C (g_X0_wake T C σ t) ∧ True) := by
  refine Met.ofB (by decide) (Nat.le_of_ble_eq_true rfl) (fun p e s m args below meth c ls Q B hQ hPK hl => ?_)
  obtain ⟨hx, hb, hml, hr, hlocks, hown, hts⟩ := B
  have S0 : Fx p m c cX0_wake 2 s args RX0 := ⟨hx, hb, hml, hown, hts⟩
  obtain ⟨hP, hK⟩ := hPK
  suffices KH : ∀ (H : Heap) (locs : List Loc), PP 0 E q σ H → va_S (Aq q) s.heap H locs → W p l e rm_X0_wake s m args below meth c H locs 0 0 Q (F0 m 0 ls []) from KH s.heap [] hP va_S.rf
  intro H locs hP hS
  have hl : lv_has ls 2 [(0, .ref (q 0)), (1, .int t)] := hl
  have hI0 := hI
  refine lv_aload_n hx hb dX0_wake_0 rfl (lv_at hl 0 rfl) ?_
  refine lv_iload_n hx hb dX0_wake_1 rfl (lv_at hl 1 rfl) ?_
  by_cases hc2 : (e_X0_checkTask T C σ t) = 0
  · skip
    refine cl_RV (k_X0_checkTask l E q hq hT hC σ hI t  hc2) gw_X0_96 hd_X0_checkTask ⟨rfl, rfl⟩ S0 hK hP (rest := []) rfl hl.1 (Nat.le_of_ble_eq_true rfl) ⟨(Nat.le_of_ble_eq_true rfl), (Nat.le_of_ble_eq_true rfl)⟩ ⟨Nat.zero_le _, Nat.zero_le _⟩ dX0_wake_2 (fun _ => ?_)
    refine lv_aload_n hx hb dX0_wake_5 rfl (lv_at hl 0 rfl) ?_
    refine gf_X0_19 hx hb hts hown hK hP dX0_wake_6 ?_
    refine lv_iload_n hx hb dX0_wake_9 rfl (lv_at hl 1 rfl) ?_
    refine ld_3 hx hb hK hP (inT0 hI0 hT hc2) dX0_wake_10 ?_
    refine lv_iconst (v := 2) hx hb dX0_wake_11 (by decide) ?_
    refine lv_icmp_eq (tgt := 25) hx hb dX0_wake_12 (by decide) (fun h12 => ?_) (fun h12 => ?_)
    · skip
      refine lv_aload_n hx hb dX0_wake_25 rfl (lv_at hl 0 rfl) ?_
      refine lv_iload_n hx hb dX0_wake_26 rfl (lv_at hl 1 rfl) ?_
      refine cl_WV (k_X0_enterQueue l E q hq hT hC σ hI t (inT0 hI0 hT hc2)) gw_X0_93 hd_X0_enterQueue ⟨rfl, rfl⟩ S0 hK hP hS (rest := []) rfl hl.1 (Nat.le_of_ble_eq_true rfl) ⟨(Nat.le_of_ble_eq_true rfl), (Nat.le_of_ble_eq_true rfl)⟩ ⟨Nat.zero_le _, Nat.zero_le _⟩ dX0_wake_27 (fun H locs hP hS hex => ?_)
      obtain ⟨hI, -⟩ := hex
      refine lv_aload_n hx hb dX0_wake_30 rfl (lv_at hl 0 rfl) ?_
      refine gf_X0_22 hx hb hts hown hK hP dX0_wake_31 ?_
      refine lv_iload_n hx hb dX0_wake_34 rfl (lv_at hl 1 rfl) ?_
      refine ld_4 hx hb hK hP (inT0 hI0 hT hc2) dX0_wake_35 ?_
      exact rt_WJ hQ hx hb hr hlocks (Eq.subst (motive := fun z => PP 0 E q z H) (show (g_X0_enterQueue T C σ t) = (g_X0_wake T C σ t) from rfl) hP) hS ⟨rfl, ⟨Eq.subst (motive := fun z => Inv T C z) (show (g_X0_enterQueue T C σ t) = (g_X0_wake T C σ t) from rfl) hI, trivial⟩⟩ dX0_wake_36
    · skip
      exact absurd (Eq.trans (Eq.symm (show (e_X0_wake T C σ t) = 2 from (Eq.trans (if_pos hc2) (if_neg h12)))) he) (by decide)
  · skip
    exact absurd (Eq.trans (Eq.symm (show (e_X0_wake T C σ t) = 1 from (if_neg hc2))) he) (by decide)
def rt_X0_wake : Room := { frames := 7, cells := 1, slots := 6, locals := 103 }
set_option maxHeartbeats 400000 in
set_option maxRecDepth 100000 in
theorem t_X0_wake (l : Launch) (hst : l.stackTraces = false) (E : Ev) (q : Nat → Nat) (hq : Dq q) {T C : Nat} (hT : T ≤ 16) (hC : 1 ≤ C ∧ C ≤ 4) (σ : St) (hI : Inv T C σ) (t : Int32) (he : ¬ (e_X0_wake T C σ t) = 0) : TX l E q σ yX0_wake cX0_wake 2 (some .long) rt_X0_wake [.int t] xISE (e_X0_wake T C σ t) := by
  refine vx_ofB (by decide) (Nat.le_of_ble_eq_true rfl) (fun p e s m args below meth c ls Q B hta hQ hPK hl => ?_)
  obtain ⟨hx, hb, hml, hr, hlocks, hown, hts⟩ := B
  have S0 : Fx p m c cX0_wake 2 s args RX0 := ⟨hx, hb, hml, hown, hts⟩
  obtain ⟨hP, hK, hX⟩ := hPK
  have hl : lv_has ls 2 [(0, .ref (q 0)), (1, .int t)] := hl
  have hI0 := hI
  refine lv_aload_n hx hb dX0_wake_0 rfl (lv_at hl 0 rfl) ?_
  refine lv_iload_n hx hb dX0_wake_1 rfl (lv_at hl 1 rfl) ?_
  by_cases hc2 : (e_X0_checkTask T C σ t) = 0
  · skip
    refine cl_RV (k_X0_checkTask l E q hq hT hC σ hI t  hc2) gw_X0_96 hd_X0_checkTask ⟨rfl, rfl⟩ S0 hK hP (rest := []) rfl hl.1 (Nat.le_of_ble_eq_true rfl) ⟨(Nat.le_of_ble_eq_true rfl), (Nat.le_of_ble_eq_true rfl)⟩ ⟨Nat.zero_le _, Nat.zero_le _⟩ dX0_wake_2 (fun _ => ?_)
    refine lv_aload_n hx hb dX0_wake_5 rfl (lv_at hl 0 rfl) ?_
    refine gf_X0_19 hx hb hts hown hK hP dX0_wake_6 ?_
    refine lv_iload_n hx hb dX0_wake_9 rfl (lv_at hl 1 rfl) ?_
    refine ld_3 hx hb hK hP (inT0 hI0 hT hc2) dX0_wake_10 ?_
    refine lv_iconst (v := 2) hx hb dX0_wake_11 (by decide) ?_
    refine lv_icmp_eq (tgt := 25) hx hb dX0_wake_12 (by decide) (fun h12 => ?_) (fun h12 => ?_)
    · skip
      exact absurd (show (e_X0_wake T C σ t) = 0 from (Eq.trans (if_pos hc2) (if_pos h12))) he
    · skip
      exact tx_new (cls := xISE) (text := "the task is not sleeping") (ik := 88) (is := 109) (ic := 92) hQ hx hb hst hown hts hX hta hlocks (by decide) cl_X0_88 ini_IllegalStateException (by decide) at_ISE ng_ISE ot_ISE (hl.1.trans hml.symm) dX0_wake_15 dX0_wake_18 dX0_wake_19 dX0_wake_21 dX0_wake_24 (Nat.le_of_ble_eq_true rfl) (Nat.le_of_ble_eq_true rfl) ⟨(Nat.le_of_ble_eq_true rfl), (Nat.le_of_ble_eq_true rfl)⟩ (xn2 (show (e_X0_wake T C σ t) = 2 from (Eq.trans (if_pos hc2) (if_neg h12))))
  · skip
    exact cx_V hQ (t_X0_checkTask l hst E q hq hT hC σ hI t  hc2) gw_X0_96 hd_X0_checkTask ⟨rfl, rfl⟩ S0 hK hP hX hta hlocks (rest := []) rfl hl.1 (Nat.le_of_ble_eq_true rfl) ⟨(Nat.le_of_ble_eq_true rfl), (Nat.le_of_ble_eq_true rfl)⟩ ⟨(Nat.le_of_ble_eq_true rfl), (Nat.le_of_ble_eq_true rfl)⟩ dX0_wake_2 (xnc (ck_X0_checkTask hc2) (show (e_X0_wake T C σ t) = 1 from (if_neg hc2)) rfl)
def f_X0_exit (T C : Nat) (σ : St) (t : Int32) : Int32 := (f_X0_stopTask T C σ t 3)
def g_X0_exit (T C : Nat) (σ : St) (t : Int32) : St := (g_X0_stopTask T C σ t 3)
def e_X0_exit (T C : Nat) (σ : St) (t : Int32) : Int32 := (if (e_X0_checkTask T C σ t) = 0 then (if (e_X0_checkNotExited T C σ t) = 0 then 0 else 2) else 1)
def rm_X0_exit : Room := { frames := 1, cells := 0, slots := 0, locals := 23 }
set_option maxHeartbeats 400000 in
set_option maxRecDepth 100000 in
theorem k_X0_exit (l : Launch) (E : Ev) (q : Nat → Nat) (hq : Dq q) {T C : Nat} (hT : T ≤ 16) (hC : 1 ≤ C ∧ C ≤ 4) (σ : St) (hI : Inv T C σ) (t : Int32) (he : (e_X0_exit T C σ t) = 0) : WI l 0 E q σ yX0_exit cX0_exit 2 (some .int) rm_X0_exit [.int t] (f_X0_exit T C σ t) (g_X0_exit T C σ t) (Inv T C (g_X0_exit T C σ t) ∧ True) := by
  refine Met.ofB (by decide) (Nat.le_of_ble_eq_true rfl) (fun p e s m args below meth c ls Q B hQ hPK hl => ?_)
  obtain ⟨hx, hb, hml, hr, hlocks, hown, hts⟩ := B
  have S0 : Fx p m c cX0_exit 2 s args RX0 := ⟨hx, hb, hml, hown, hts⟩
  obtain ⟨hP, hK⟩ := hPK
  suffices KH : ∀ (H : Heap) (locs : List Loc), PP 0 E q σ H → va_S (Aq q) s.heap H locs → W p l e rm_X0_exit s m args below meth c H locs 0 0 Q (F0 m 0 ls []) from KH s.heap [] hP va_S.rf
  intro H locs hP hS
  have hl : lv_has ls 2 [(0, .ref (q 0)), (1, .int t)] := hl
  have hI0 := hI
  refine lv_aload_n hx hb dX0_exit_0 rfl (lv_at hl 0 rfl) ?_
  refine lv_iload_n hx hb dX0_exit_1 rfl (lv_at hl 1 rfl) ?_
  by_cases hc2 : (e_X0_checkTask T C σ t) = 0
  · skip
    refine cl_RV (k_X0_checkTask l E q hq hT hC σ hI t  hc2) gw_X0_96 hd_X0_checkTask ⟨rfl, rfl⟩ S0 hK hP (rest := []) rfl hl.1 (Nat.le_of_ble_eq_true rfl) ⟨(Nat.le_of_ble_eq_true rfl), (Nat.le_of_ble_eq_true rfl)⟩ ⟨Nat.zero_le _, Nat.zero_le _⟩ dX0_exit_2 (fun _ => ?_)
    refine lv_aload_n hx hb dX0_exit_5 rfl (lv_at hl 0 rfl) ?_
    refine lv_iload_n hx hb dX0_exit_6 rfl (lv_at hl 1 rfl) ?_
    by_cases hc7 : (e_X0_checkNotExited T C σ t) = 0
    · skip
      refine cl_RV (k_X0_checkNotExited l E q hq hT hC σ hI t (inT0 hI0 hT hc2) hc7) gw_X0_111 hd_X0_checkNotExited ⟨rfl, rfl⟩ S0 hK hP (rest := []) rfl hl.1 (Nat.le_of_ble_eq_true rfl) ⟨(Nat.le_of_ble_eq_true rfl), (Nat.le_of_ble_eq_true rfl)⟩ ⟨Nat.zero_le _, Nat.zero_le _⟩ dX0_exit_7 (fun _ => ?_)
      refine lv_aload_n hx hb dX0_exit_10 rfl (lv_at hl 0 rfl) ?_
      refine lv_iload_n hx hb dX0_exit_11 rfl (lv_at hl 1 rfl) ?_
      refine lv_iconst (v := 3) hx hb dX0_exit_12 (by decide) ?_
      refine cl_WI (k_X0_stopTask l E q hq hT hC σ hI t 3 (inT0 hI0 hT hc2)) gw_X0_105 hd_X0_stopTask ⟨rfl, rfl⟩ S0 hK hP hS (rest := []) rfl hl.1 (Nat.le_of_ble_eq_true rfl) ⟨(Nat.le_of_ble_eq_true rfl), (Nat.le_of_ble_eq_true rfl)⟩ ⟨Nat.zero_le _, Nat.zero_le _⟩ dX0_exit_13 (fun H locs hP hS hex => ?_)
      obtain ⟨hI, -⟩ := hex
      exact rt_WI hQ hx hb hr hlocks (Eq.subst (motive := fun z => PP 0 E q z H) (show (g_X0_stopTask T C σ t 3) = (g_X0_exit T C σ t) from rfl) hP) hS ⟨rfl, ⟨Eq.subst (motive := fun z => Inv T C z) (show (g_X0_stopTask T C σ t 3) = (g_X0_exit T C σ t) from rfl) hI, trivial⟩⟩ dX0_exit_16
    · skip
      exact absurd (Eq.trans (Eq.symm (show (e_X0_exit T C σ t) = 2 from (Eq.trans (if_pos hc2) (if_neg hc7)))) he) (by decide)
  · skip
    exact absurd (Eq.trans (Eq.symm (show (e_X0_exit T C σ t) = 1 from (if_neg hc2))) he) (by decide)
def rt_X0_exit : Room := { frames := 7, cells := 1, slots := 6, locals := 103 }
set_option maxHeartbeats 400000 in
set_option maxRecDepth 100000 in
theorem t_X0_exit (l : Launch) (hst : l.stackTraces = false) (E : Ev) (q : Nat → Nat) (hq : Dq q) {T C : Nat} (hT : T ≤ 16) (hC : 1 ≤ C ∧ C ≤ 4) (σ : St) (hI : Inv T C σ) (t : Int32) (he : ¬ (e_X0_exit T C σ t) = 0) : TX l E q σ yX0_exit cX0_exit 2 (some .int) rt_X0_exit [.int t] xISE (e_X0_exit T C σ t) := by
  refine vx_ofB (by decide) (Nat.le_of_ble_eq_true rfl) (fun p e s m args below meth c ls Q B hta hQ hPK hl => ?_)
  obtain ⟨hx, hb, hml, hr, hlocks, hown, hts⟩ := B
  have S0 : Fx p m c cX0_exit 2 s args RX0 := ⟨hx, hb, hml, hown, hts⟩
  obtain ⟨hP, hK, hX⟩ := hPK
  have hl : lv_has ls 2 [(0, .ref (q 0)), (1, .int t)] := hl
  have hI0 := hI
  refine lv_aload_n hx hb dX0_exit_0 rfl (lv_at hl 0 rfl) ?_
  refine lv_iload_n hx hb dX0_exit_1 rfl (lv_at hl 1 rfl) ?_
  by_cases hc2 : (e_X0_checkTask T C σ t) = 0
  · skip
    refine cl_RV (k_X0_checkTask l E q hq hT hC σ hI t  hc2) gw_X0_96 hd_X0_checkTask ⟨rfl, rfl⟩ S0 hK hP (rest := []) rfl hl.1 (Nat.le_of_ble_eq_true rfl) ⟨(Nat.le_of_ble_eq_true rfl), (Nat.le_of_ble_eq_true rfl)⟩ ⟨Nat.zero_le _, Nat.zero_le _⟩ dX0_exit_2 (fun _ => ?_)
    refine lv_aload_n hx hb dX0_exit_5 rfl (lv_at hl 0 rfl) ?_
    refine lv_iload_n hx hb dX0_exit_6 rfl (lv_at hl 1 rfl) ?_
    by_cases hc7 : (e_X0_checkNotExited T C σ t) = 0
    · skip
      refine cl_RV (k_X0_checkNotExited l E q hq hT hC σ hI t (inT0 hI0 hT hc2) hc7) gw_X0_111 hd_X0_checkNotExited ⟨rfl, rfl⟩ S0 hK hP (rest := []) rfl hl.1 (Nat.le_of_ble_eq_true rfl) ⟨(Nat.le_of_ble_eq_true rfl), (Nat.le_of_ble_eq_true rfl)⟩ ⟨Nat.zero_le _, Nat.zero_le _⟩ dX0_exit_7 (fun _ => ?_)
      exact absurd (show (e_X0_exit T C σ t) = 0 from (Eq.trans (if_pos hc2) (if_pos hc7))) he
    · skip
      exact cx_V hQ (t_X0_checkNotExited l hst E q hq hT hC σ hI t (inT0 hI0 hT hc2) hc7) gw_X0_111 hd_X0_checkNotExited ⟨rfl, rfl⟩ S0 hK hP hX hta hlocks (rest := []) rfl hl.1 (Nat.le_of_ble_eq_true rfl) ⟨(Nat.le_of_ble_eq_true rfl), (Nat.le_of_ble_eq_true rfl)⟩ ⟨(Nat.le_of_ble_eq_true rfl), (Nat.le_of_ble_eq_true rfl)⟩ dX0_exit_7 (xnc (ck_X0_checkNotExited hc7) (show (e_X0_exit T C σ t) = 2 from (Eq.trans (if_pos hc2) (if_neg hc7))) rfl)
  · skip
    exact cx_V hQ (t_X0_checkTask l hst E q hq hT hC σ hI t  hc2) gw_X0_96 hd_X0_checkTask ⟨rfl, rfl⟩ S0 hK hP hX hta hlocks (rest := []) rfl hl.1 (Nat.le_of_ble_eq_true rfl) ⟨(Nat.le_of_ble_eq_true rfl), (Nat.le_of_ble_eq_true rfl)⟩ ⟨(Nat.le_of_ble_eq_true rfl), (Nat.le_of_ble_eq_true rfl)⟩ dX0_exit_2 (xnc (ck_X0_checkTask hc2) (show (e_X0_exit T C σ t) = 1 from (if_neg hc2)) rfl)
def f_X0_setWeight (T C : Nat) (σ : St) (t : Int32) (w9 : Int32) : Int32 := (σ.1 1 (ix t))
def g_X0_setWeight (T C : Nat) (σ : St) (t : Int32) (w9 : Int32) : St := (sI σ 1 (ix t) w9)
def e_X0_setWeight (T C : Nat) (σ : St) (t : Int32) (w9 : Int32) : Int32 := (if (e_X0_checkTask T C σ t) = 0 then (if (e_X0_checkWeight w9) = 0 then (if (e_X0_checkNotExited T C σ t) = 0 then 0 else 2) else 1) else 1)
def rm_X0_setWeight : Room := { frames := 1, cells := 0, slots := 0, locals := 21 }
set_option maxHeartbeats 400000 in
set_option maxRecDepth 100000 in
theorem k_X0_setWeight (l : Launch) (E : Ev) (q : Nat → Nat) (hq : Dq q) {T C : Nat} (hT : T ≤ 16) (hC : 1 ≤ C ∧ C ≤ 4) (σ : St) (hI : Inv T C σ) (t : Int32) (w9 : Int32) (he : (e_X0_setWeight T C σ t w9) = 0) : WI l 0 E q σ yX0_setWeight cX0_setWeight 4 (some .int) rm_X0_setWeight [.int t, .int w9] (f_X0_setWeight T C σ t w9) (g_X0_setWeight T C σ t w9) (Inv T C (g_X0_setWeight T C σ t w9) ∧ True) := by
  refine Met.ofB (by decide) (Nat.le_of_ble_eq_true rfl) (fun p e s m args below meth c ls Q B hQ hPK hl => ?_)
  obtain ⟨hx, hb, hml, hr, hlocks, hown, hts⟩ := B
  have S0 : Fx p m c cX0_setWeight 4 s args RX0 := ⟨hx, hb, hml, hown, hts⟩
  obtain ⟨hP, hK⟩ := hPK
  suffices KH : ∀ (H : Heap) (locs : List Loc), PP 0 E q σ H → va_S (Aq q) s.heap H locs → W p l e rm_X0_setWeight s m args below meth c H locs 0 0 Q (F0 m 0 ls []) from KH s.heap [] hP va_S.rf
  intro H locs hP hS
  have hl : lv_has ls 4 [(0, .ref (q 0)), (1, .int t), (2, .int w9)] := hl
  have hI0 := hI
  refine lv_aload_n hx hb dX0_setWeight_0 rfl (lv_at hl 0 rfl) ?_
  refine lv_iload_n hx hb dX0_setWeight_1 rfl (lv_at hl 1 rfl) ?_
  by_cases hc2 : (e_X0_checkTask T C σ t) = 0
  · skip
    refine cl_RV (k_X0_checkTask l E q hq hT hC σ hI t  hc2) gw_X0_96 hd_X0_checkTask ⟨rfl, rfl⟩ S0 hK hP (rest := []) rfl hl.1 (Nat.le_of_ble_eq_true rfl) ⟨(Nat.le_of_ble_eq_true rfl), (Nat.le_of_ble_eq_true rfl)⟩ ⟨Nat.zero_le _, Nat.zero_le _⟩ dX0_setWeight_2 (fun _ => ?_)
    refine lv_iload_n hx hb dX0_setWeight_5 rfl (lv_at hl 2 rfl) ?_
    by_cases hc6 : (e_X0_checkWeight w9) = 0
    · skip
      refine cl_NV (k_X0_checkWeight l w9 hc6) gw_X0_79 hd_X0_checkWeight ⟨rfl, rfl⟩ S0 (rest := []) rfl hl.1 (Nat.le_of_ble_eq_true rfl) ⟨(Nat.le_of_ble_eq_true rfl), (Nat.le_of_ble_eq_true rfl)⟩ ⟨Nat.zero_le _, Nat.zero_le _⟩ dX0_setWeight_6 ?_
      refine lv_aload_n hx hb dX0_setWeight_9 rfl (lv_at hl 0 rfl) ?_
      refine lv_iload_n hx hb dX0_setWeight_10 rfl (lv_at hl 1 rfl) ?_
      by_cases hc11 : (e_X0_checkNotExited T C σ t) = 0
      · skip
        refine cl_RV (k_X0_checkNotExited l E q hq hT hC σ hI t (inT0 hI0 hT hc2) hc11) gw_X0_111 hd_X0_checkNotExited ⟨rfl, rfl⟩ S0 hK hP (rest := []) rfl hl.1 (Nat.le_of_ble_eq_true rfl) ⟨(Nat.le_of_ble_eq_true rfl), (Nat.le_of_ble_eq_true rfl)⟩ ⟨Nat.zero_le _, Nat.zero_le _⟩ dX0_setWeight_11 (fun _ => ?_)
        refine lv_aload_n hx hb dX0_setWeight_14 rfl (lv_at hl 0 rfl) ?_
        refine gf_X0_13 hx hb hts hown hK hP dX0_setWeight_15 ?_
        refine lv_iload_n hx hb dX0_setWeight_18 rfl (lv_at hl 1 rfl) ?_
        refine ld_1 hx hb hK hP (inT0 hI0 hT hc2) dX0_setWeight_19 ?_
        refine lv_istore_n (lv' := [(3, .int (σ.1 1 (ix t))), (0, .ref (q 0)), (1, .int t), (2, .int w9)]) hx hb dX0_setWeight_20 rfl hl (by decide) rfl (fun ls hl => ?_)
        refine lv_aload_n hx hb dX0_setWeight_21 rfl (lv_at hl 1 rfl) ?_
        refine gf_X0_13 hx hb hts hown hK hP dX0_setWeight_22 ?_
        refine lv_iload_n hx hb dX0_setWeight_25 rfl (lv_at hl 2 rfl) ?_
        refine lv_iload_n hx hb dX0_setWeight_26 rfl (lv_at hl 3 rfl) ?_
        refine st_1 hx hb hK hq hP hS (inT0 hI0 hT hc2) dX0_setWeight_27 (fun H locs hP hS => ?_)
        have hI : Inv T C (sI σ 1 (ix t) w9) := inv_weight (inW0 hc6) hI
        refine lv_iload_n hx hb dX0_setWeight_28 rfl (lv_at hl 0 rfl) ?_
        exact rt_WI hQ hx hb hr hlocks (Eq.subst (motive := fun z => PP 0 E q z H) (show (sI σ 1 (ix t) w9) = (g_X0_setWeight T C σ t w9) from rfl) hP) hS ⟨rfl, ⟨Eq.subst (motive := fun z => Inv T C z) (show (sI σ 1 (ix t) w9) = (g_X0_setWeight T C σ t w9) from rfl) hI, trivial⟩⟩ dX0_setWeight_29
      · skip
        exact absurd (Eq.trans (Eq.symm (show (e_X0_setWeight T C σ t w9) = 2 from (Eq.trans (Eq.trans (if_pos hc2) (if_pos hc6)) (if_neg hc11)))) he) (by decide)
    · skip
      exact absurd (Eq.trans (Eq.symm (show (e_X0_setWeight T C σ t w9) = 1 from (Eq.trans (if_pos hc2) (if_neg hc6)))) he) (by decide)
  · skip
    exact absurd (Eq.trans (Eq.symm (show (e_X0_setWeight T C σ t w9) = 1 from (if_neg hc2))) he) (by decide)
def rt_X0_setWeight : Room := { frames := 7, cells := 1, slots := 6, locals := 103 }
set_option maxHeartbeats 400000 in
set_option maxRecDepth 100000 in
theorem t_X0_setWeight (l : Launch) (hst : l.stackTraces = false) (E : Ev) (q : Nat → Nat) (hq : Dq q) {T C : Nat} (hT : T ≤ 16) (hC : 1 ≤ C ∧ C ≤ 4) (σ : St) (hI : Inv T C σ) (t : Int32) (w9 : Int32) (he : ¬ (e_X0_setWeight T C σ t w9) = 0) : TX l E q σ yX0_setWeight cX0_setWeight 4 (some .int) rt_X0_setWeight [.int t, .int w9] xISE (e_X0_setWeight T C σ t w9) := by
  refine vx_ofB (by decide) (Nat.le_of_ble_eq_true rfl) (fun p e s m args below meth c ls Q B hta hQ hPK hl => ?_)
  obtain ⟨hx, hb, hml, hr, hlocks, hown, hts⟩ := B
  have S0 : Fx p m c cX0_setWeight 4 s args RX0 := ⟨hx, hb, hml, hown, hts⟩
  obtain ⟨hP, hK, hX⟩ := hPK
  have hl : lv_has ls 4 [(0, .ref (q 0)), (1, .int t), (2, .int w9)] := hl
  have hI0 := hI
  refine lv_aload_n hx hb dX0_setWeight_0 rfl (lv_at hl 0 rfl) ?_
  refine lv_iload_n hx hb dX0_setWeight_1 rfl (lv_at hl 1 rfl) ?_
  by_cases hc2 : (e_X0_checkTask T C σ t) = 0
  · skip
    refine cl_RV (k_X0_checkTask l E q hq hT hC σ hI t  hc2) gw_X0_96 hd_X0_checkTask ⟨rfl, rfl⟩ S0 hK hP (rest := []) rfl hl.1 (Nat.le_of_ble_eq_true rfl) ⟨(Nat.le_of_ble_eq_true rfl), (Nat.le_of_ble_eq_true rfl)⟩ ⟨Nat.zero_le _, Nat.zero_le _⟩ dX0_setWeight_2 (fun _ => ?_)
    refine lv_iload_n hx hb dX0_setWeight_5 rfl (lv_at hl 2 rfl) ?_
    by_cases hc6 : (e_X0_checkWeight w9) = 0
    · skip
      refine cl_NV (k_X0_checkWeight l w9 hc6) gw_X0_79 hd_X0_checkWeight ⟨rfl, rfl⟩ S0 (rest := []) rfl hl.1 (Nat.le_of_ble_eq_true rfl) ⟨(Nat.le_of_ble_eq_true rfl), (Nat.le_of_ble_eq_true rfl)⟩ ⟨Nat.zero_le _, Nat.zero_le _⟩ dX0_setWeight_6 ?_
      refine lv_aload_n hx hb dX0_setWeight_9 rfl (lv_at hl 0 rfl) ?_
      refine lv_iload_n hx hb dX0_setWeight_10 rfl (lv_at hl 1 rfl) ?_
      by_cases hc11 : (e_X0_checkNotExited T C σ t) = 0
      · skip
        refine cl_RV (k_X0_checkNotExited l E q hq hT hC σ hI t (inT0 hI0 hT hc2) hc11) gw_X0_111 hd_X0_checkNotExited ⟨rfl, rfl⟩ S0 hK hP (rest := []) rfl hl.1 (Nat.le_of_ble_eq_true rfl) ⟨(Nat.le_of_ble_eq_true rfl), (Nat.le_of_ble_eq_true rfl)⟩ ⟨Nat.zero_le _, Nat.zero_le _⟩ dX0_setWeight_11 (fun _ => ?_)
        exact absurd (show (e_X0_setWeight T C σ t w9) = 0 from (Eq.trans (Eq.trans (if_pos hc2) (if_pos hc6)) (if_pos hc11))) he
      · skip
        exact cx_V hQ (t_X0_checkNotExited l hst E q hq hT hC σ hI t (inT0 hI0 hT hc2) hc11) gw_X0_111 hd_X0_checkNotExited ⟨rfl, rfl⟩ S0 hK hP hX hta hlocks (rest := []) rfl hl.1 (Nat.le_of_ble_eq_true rfl) ⟨(Nat.le_of_ble_eq_true rfl), (Nat.le_of_ble_eq_true rfl)⟩ ⟨(Nat.le_of_ble_eq_true rfl), (Nat.le_of_ble_eq_true rfl)⟩ dX0_setWeight_11 (xnc (ck_X0_checkNotExited hc11) (show (e_X0_setWeight T C σ t w9) = 2 from (Eq.trans (Eq.trans (if_pos hc2) (if_pos hc6)) (if_neg hc11))) rfl)
    · skip
      exact cx_S hQ (t_X0_checkWeight l hst q w9 hc6) gw_X0_79 hd_X0_checkWeight ⟨rfl, rfl⟩ S0 hX hta hlocks (rest := []) rfl hl.1 (Nat.le_of_ble_eq_true rfl) ⟨(Nat.le_of_ble_eq_true rfl), (Nat.le_of_ble_eq_true rfl)⟩ ⟨(Nat.le_of_ble_eq_true rfl), (Nat.le_of_ble_eq_true rfl)⟩ dX0_setWeight_6 (xnc (ck_X0_checkWeight hc6) (show (e_X0_setWeight T C σ t w9) = 1 from (Eq.trans (if_pos hc2) (if_neg hc6))) rfl)
  · skip
    exact cx_V hQ (t_X0_checkTask l hst E q hq hT hC σ hI t  hc2) gw_X0_96 hd_X0_checkTask ⟨rfl, rfl⟩ S0 hK hP hX hta hlocks (rest := []) rfl hl.1 (Nat.le_of_ble_eq_true rfl) ⟨(Nat.le_of_ble_eq_true rfl), (Nat.le_of_ble_eq_true rfl)⟩ ⟨(Nat.le_of_ble_eq_true rfl), (Nat.le_of_ble_eq_true rfl)⟩ dX0_setWeight_2 (xnc (ck_X0_checkTask hc2) (show (e_X0_setWeight T C σ t w9) = 1 from (if_neg hc2)) rfl)
def f_X0_setCookie (T C : Nat) (σ : St) (t : Int32) (w9 : Int32) : Int32 := (σ.1 2 (ix t))
def g_X0_setCookie (T C : Nat) (σ : St) (t : Int32) (w9 : Int32) : St := (sI σ 2 (ix t) w9)
def e_X0_setCookie (T C : Nat) (σ : St) (t : Int32) (w9 : Int32) : Int32 := (if (e_X0_checkTask T C σ t) = 0 then (if (e_X0_checkCookie w9) = 0 then (if (e_X0_checkNotExited T C σ t) = 0 then 0 else 2) else 1) else 1)
def rm_X0_setCookie : Room := { frames := 1, cells := 0, slots := 0, locals := 21 }
set_option maxHeartbeats 400000 in
set_option maxRecDepth 100000 in
theorem k_X0_setCookie (l : Launch) (E : Ev) (q : Nat → Nat) (hq : Dq q) {T C : Nat} (hT : T ≤ 16) (hC : 1 ≤ C ∧ C ≤ 4) (σ : St) (hI : Inv T C σ) (t : Int32) (w9 : Int32) (he : (e_X0_setCookie T C σ t w9) = 0) : WI l 0 E q σ yX0_setCookie cX0_setCookie 4 (some .int) rm_X0_setCookie [.int t, .int w9] (f_X0_setCookie T C σ t w9) (g_X0_setCookie T C σ t w9) (Inv T C (g_X0_setCookie T C σ t w9) ∧ True) := by
  refine Met.ofB (by decide) (Nat.le_of_ble_eq_true rfl) (fun p e s m args below meth c ls Q B hQ hPK hl => ?_)
  obtain ⟨hx, hb, hml, hr, hlocks, hown, hts⟩ := B
  have S0 : Fx p m c cX0_setCookie 4 s args RX0 := ⟨hx, hb, hml, hown, hts⟩
  obtain ⟨hP, hK⟩ := hPK
  suffices KH : ∀ (H : Heap) (locs : List Loc), PP 0 E q σ H → va_S (Aq q) s.heap H locs → W p l e rm_X0_setCookie s m args below meth c H locs 0 0 Q (F0 m 0 ls []) from KH s.heap [] hP va_S.rf
  intro H locs hP hS
  have hl : lv_has ls 4 [(0, .ref (q 0)), (1, .int t), (2, .int w9)] := hl
  have hI0 := hI
  refine lv_aload_n hx hb dX0_setCookie_0 rfl (lv_at hl 0 rfl) ?_
  refine lv_iload_n hx hb dX0_setCookie_1 rfl (lv_at hl 1 rfl) ?_
  by_cases hc2 : (e_X0_checkTask T C σ t) = 0
  · skip
    refine cl_RV (k_X0_checkTask l E q hq hT hC σ hI t  hc2) gw_X0_96 hd_X0_checkTask ⟨rfl, rfl⟩ S0 hK hP (rest := []) rfl hl.1 (Nat.le_of_ble_eq_true rfl) ⟨(Nat.le_of_ble_eq_true rfl), (Nat.le_of_ble_eq_true rfl)⟩ ⟨Nat.zero_le _, Nat.zero_le _⟩ dX0_setCookie_2 (fun _ => ?_)
    refine lv_iload_n hx hb dX0_setCookie_5 rfl (lv_at hl 2 rfl) ?_
    by_cases hc6 : (e_X0_checkCookie w9) = 0
    · skip
      refine cl_NV (k_X0_checkCookie l w9 hc6) gw_X0_82 hd_X0_checkCookie ⟨rfl, rfl⟩ S0 (rest := []) rfl hl.1 (Nat.le_of_ble_eq_true rfl) ⟨(Nat.le_of_ble_eq_true rfl), (Nat.le_of_ble_eq_true rfl)⟩ ⟨Nat.zero_le _, Nat.zero_le _⟩ dX0_setCookie_6 ?_
      refine lv_aload_n hx hb dX0_setCookie_9 rfl (lv_at hl 0 rfl) ?_
      refine lv_iload_n hx hb dX0_setCookie_10 rfl (lv_at hl 1 rfl) ?_
      by_cases hc11 : (e_X0_checkNotExited T C σ t) = 0
      · skip
        refine cl_RV (k_X0_checkNotExited l E q hq hT hC σ hI t (inT0 hI0 hT hc2) hc11) gw_X0_111 hd_X0_checkNotExited ⟨rfl, rfl⟩ S0 hK hP (rest := []) rfl hl.1 (Nat.le_of_ble_eq_true rfl) ⟨(Nat.le_of_ble_eq_true rfl), (Nat.le_of_ble_eq_true rfl)⟩ ⟨Nat.zero_le _, Nat.zero_le _⟩ dX0_setCookie_11 (fun _ => ?_)
        refine lv_aload_n hx hb dX0_setCookie_14 rfl (lv_at hl 0 rfl) ?_
        refine gf_X0_16 hx hb hts hown hK hP dX0_setCookie_15 ?_
        refine lv_iload_n hx hb dX0_setCookie_18 rfl (lv_at hl 1 rfl) ?_
        refine ld_2 hx hb hK hP (inT0 hI0 hT hc2) dX0_setCookie_19 ?_
        refine lv_istore_n (lv' := [(3, .int (σ.1 2 (ix t))), (0, .ref (q 0)), (1, .int t), (2, .int w9)]) hx hb dX0_setCookie_20 rfl hl (by decide) rfl (fun ls hl => ?_)
        refine lv_aload_n hx hb dX0_setCookie_21 rfl (lv_at hl 1 rfl) ?_
        refine gf_X0_16 hx hb hts hown hK hP dX0_setCookie_22 ?_
        refine lv_iload_n hx hb dX0_setCookie_25 rfl (lv_at hl 2 rfl) ?_
        refine lv_iload_n hx hb dX0_setCookie_26 rfl (lv_at hl 3 rfl) ?_
        refine st_2 hx hb hK hq hP hS (inT0 hI0 hT hc2) dX0_setCookie_27 (fun H locs hP hS => ?_)
        have hI : Inv T C (sI σ 2 (ix t) w9) := inv_sI (by decide) hI
        refine lv_iload_n hx hb dX0_setCookie_28 rfl (lv_at hl 0 rfl) ?_
        exact rt_WI hQ hx hb hr hlocks (Eq.subst (motive := fun z => PP 0 E q z H) (show (sI σ 2 (ix t) w9) = (g_X0_setCookie T C σ t w9) from rfl) hP) hS ⟨rfl, ⟨Eq.subst (motive := fun z => Inv T C z) (show (sI σ 2 (ix t) w9) = (g_X0_setCookie T C σ t w9) from rfl) hI, trivial⟩⟩ dX0_setCookie_29
      · skip
        exact absurd (Eq.trans (Eq.symm (show (e_X0_setCookie T C σ t w9) = 2 from (Eq.trans (Eq.trans (if_pos hc2) (if_pos hc6)) (if_neg hc11)))) he) (by decide)
    · skip
      exact absurd (Eq.trans (Eq.symm (show (e_X0_setCookie T C σ t w9) = 1 from (Eq.trans (if_pos hc2) (if_neg hc6)))) he) (by decide)
  · skip
    exact absurd (Eq.trans (Eq.symm (show (e_X0_setCookie T C σ t w9) = 1 from (if_neg hc2))) he) (by decide)
def rt_X0_setCookie : Room := { frames := 7, cells := 1, slots := 6, locals := 103 }
set_option maxHeartbeats 400000 in
set_option maxRecDepth 100000 in
theorem t_X0_setCookie (l : Launch) (hst : l.stackTraces = false) (E : Ev) (q : Nat → Nat) (hq : Dq q) {T C : Nat} (hT : T ≤ 16) (hC : 1 ≤ C ∧ C ≤ 4) (σ : St) (hI : Inv T C σ) (t : Int32) (w9 : Int32) (he : ¬ (e_X0_setCookie T C σ t w9) = 0) : TX l E q σ yX0_setCookie cX0_setCookie 4 (some .int) rt_X0_setCookie [.int t, .int w9] xISE (e_X0_setCookie T C σ t w9) := by
  refine vx_ofB (by decide) (Nat.le_of_ble_eq_true rfl) (fun p e s m args below meth c ls Q B hta hQ hPK hl => ?_)
  obtain ⟨hx, hb, hml, hr, hlocks, hown, hts⟩ := B
  have S0 : Fx p m c cX0_setCookie 4 s args RX0 := ⟨hx, hb, hml, hown, hts⟩
  obtain ⟨hP, hK, hX⟩ := hPK
  have hl : lv_has ls 4 [(0, .ref (q 0)), (1, .int t), (2, .int w9)] := hl
  have hI0 := hI
  refine lv_aload_n hx hb dX0_setCookie_0 rfl (lv_at hl 0 rfl) ?_
  refine lv_iload_n hx hb dX0_setCookie_1 rfl (lv_at hl 1 rfl) ?_
  by_cases hc2 : (e_X0_checkTask T C σ t) = 0
  · skip
    refine cl_RV (k_X0_checkTask l E q hq hT hC σ hI t  hc2) gw_X0_96 hd_X0_checkTask ⟨rfl, rfl⟩ S0 hK hP (rest := []) rfl hl.1 (Nat.le_of_ble_eq_true rfl) ⟨(Nat.le_of_ble_eq_true rfl), (Nat.le_of_ble_eq_true rfl)⟩ ⟨Nat.zero_le _, Nat.zero_le _⟩ dX0_setCookie_2 (fun _ => ?_)
    refine lv_iload_n hx hb dX0_setCookie_5 rfl (lv_at hl 2 rfl) ?_
    by_cases hc6 : (e_X0_checkCookie w9) = 0
    · skip
      refine cl_NV (k_X0_checkCookie l w9 hc6) gw_X0_82 hd_X0_checkCookie ⟨rfl, rfl⟩ S0 (rest := []) rfl hl.1 (Nat.le_of_ble_eq_true rfl) ⟨(Nat.le_of_ble_eq_true rfl), (Nat.le_of_ble_eq_true rfl)⟩ ⟨Nat.zero_le _, Nat.zero_le _⟩ dX0_setCookie_6 ?_
      refine lv_aload_n hx hb dX0_setCookie_9 rfl (lv_at hl 0 rfl) ?_
      refine lv_iload_n hx hb dX0_setCookie_10 rfl (lv_at hl 1 rfl) ?_
      by_cases hc11 : (e_X0_checkNotExited T C σ t) = 0
      · skip
        refine cl_RV (k_X0_checkNotExited l E q hq hT hC σ hI t (inT0 hI0 hT hc2) hc11) gw_X0_111 hd_X0_checkNotExited ⟨rfl, rfl⟩ S0 hK hP (rest := []) rfl hl.1 (Nat.le_of_ble_eq_true rfl) ⟨(Nat.le_of_ble_eq_true rfl), (Nat.le_of_ble_eq_true rfl)⟩ ⟨Nat.zero_le _, Nat.zero_le _⟩ dX0_setCookie_11 (fun _ => ?_)
        exact absurd (show (e_X0_setCookie T C σ t w9) = 0 from (Eq.trans (Eq.trans (if_pos hc2) (if_pos hc6)) (if_pos hc11))) he
      · skip
        exact cx_V hQ (t_X0_checkNotExited l hst E q hq hT hC σ hI t (inT0 hI0 hT hc2) hc11) gw_X0_111 hd_X0_checkNotExited ⟨rfl, rfl⟩ S0 hK hP hX hta hlocks (rest := []) rfl hl.1 (Nat.le_of_ble_eq_true rfl) ⟨(Nat.le_of_ble_eq_true rfl), (Nat.le_of_ble_eq_true rfl)⟩ ⟨(Nat.le_of_ble_eq_true rfl), (Nat.le_of_ble_eq_true rfl)⟩ dX0_setCookie_11 (xnc (ck_X0_checkNotExited hc11) (show (e_X0_setCookie T C σ t w9) = 2 from (Eq.trans (Eq.trans (if_pos hc2) (if_pos hc6)) (if_neg hc11))) rfl)
    · skip
      exact cx_S hQ (t_X0_checkCookie l hst q w9 hc6) gw_X0_82 hd_X0_checkCookie ⟨rfl, rfl⟩ S0 hX hta hlocks (rest := []) rfl hl.1 (Nat.le_of_ble_eq_true rfl) ⟨(Nat.le_of_ble_eq_true rfl), (Nat.le_of_ble_eq_true rfl)⟩ ⟨(Nat.le_of_ble_eq_true rfl), (Nat.le_of_ble_eq_true rfl)⟩ dX0_setCookie_6 (xnc (ck_X0_checkCookie hc6) (show (e_X0_setCookie T C σ t w9) = 1 from (Eq.trans (if_pos hc2) (if_neg hc6))) rfl)
  · skip
    exact cx_V hQ (t_X0_checkTask l hst E q hq hT hC σ hI t  hc2) gw_X0_96 hd_X0_checkTask ⟨rfl, rfl⟩ S0 hK hP hX hta hlocks (rest := []) rfl hl.1 (Nat.le_of_ble_eq_true rfl) ⟨(Nat.le_of_ble_eq_true rfl), (Nat.le_of_ble_eq_true rfl)⟩ ⟨(Nat.le_of_ble_eq_true rfl), (Nat.le_of_ble_eq_true rfl)⟩ dX0_setCookie_2 (xnc (ck_X0_checkTask hc2) (show (e_X0_setCookie T C σ t w9) = 1 from (if_neg hc2)) rfl)
def f_X0_moveTask (T C : Nat) (σ : St) (t : Int32) (c9 : Int32) : Int32 := (σ.1 0 (ix t))
def g_X0_moveTask (T C : Nat) (σ : St) (t : Int32) (c9 : Int32) : St := (if (σ.1 3 (ix t)) = 0 then (g_X0_moveRunnable T C σ t c9) else (sI σ 0 (ix t) c9))
def e_X0_moveTask (T C : Nat) (σ : St) (t : Int32) (c9 : Int32) : Int32 := (if (e_X0_checkTask T C σ t) = 0 then (if (e_X0_checkCpu T C σ c9) = 0 then (if (e_X0_checkNotExited T C σ t) = 0 then (if (σ.1 3 (ix t)) = 1 then 2 else 0) else 2) else 1) else 1)
def rm_X0_moveTask : Room := { frames := 2, cells := 0, slots := 0, locals := 43 }
set_option maxHeartbeats 400000 in
set_option maxRecDepth 100000 in
theorem k_X0_moveTask (l : Launch) (E : Ev) (q : Nat → Nat) (hq : Dq q) {T C : Nat} (hT : T ≤ 16) (hC : 1 ≤ C ∧ C ≤ 4) (σ : St) (hI : Inv T C σ) (t : Int32) (c9 : Int32) (he : (e_X0_moveTask T C σ t c9) = 0) : WI l 0 E q σ yX0_moveTask cX0_moveTask 4 (some .int) rm_X0_moveTask [.int t, .int c9] (f_X0_moveTask T C σ t c9) (g_X0_moveTask T C σ t c9) (Inv T C (g_X0_moveTask T C σ t c9) ∧ True) := by
  refine Met.ofB (by decide) (Nat.le_of_ble_eq_true rfl) (fun p e s m args below meth c ls Q B hQ hPK hl => ?_)
  obtain ⟨hx, hb, hml, hr, hlocks, hown, hts⟩ := B
  have S0 : Fx p m c cX0_moveTask 4 s args RX0 := ⟨hx, hb, hml, hown, hts⟩
  obtain ⟨hP, hK⟩ := hPK
  suffices KH : ∀ (H : Heap) (locs : List Loc), PP 0 E q σ H → va_S (Aq q) s.heap H locs → W p l e rm_X0_moveTask s m args below meth c H locs 0 0 Q (F0 m 0 ls []) from KH s.heap [] hP va_S.rf
  intro H locs hP hS
  have hl : lv_has ls 4 [(0, .ref (q 0)), (1, .int t), (2, .int c9)] := hl
  have hI0 := hI
  refine lv_aload_n hx hb dX0_moveTask_0 rfl (lv_at hl 0 rfl) ?_
  refine lv_iload_n hx hb dX0_moveTask_1 rfl (lv_at hl 1 rfl) ?_
  by_cases hc2 : (e_X0_checkTask T C σ t) = 0
  · skip
    refine cl_RV (k_X0_checkTask l E q hq hT hC σ hI t  hc2) gw_X0_96 hd_X0_checkTask ⟨rfl, rfl⟩ S0 hK hP (rest := []) rfl hl.1 (Nat.le_of_ble_eq_true rfl) ⟨(Nat.le_of_ble_eq_true rfl), (Nat.le_of_ble_eq_true rfl)⟩ ⟨Nat.zero_le _, Nat.zero_le _⟩ dX0_moveTask_2 (fun _ => ?_)
    refine lv_aload_n hx hb dX0_moveTask_5 rfl (lv_at hl 0 rfl) ?_
    refine lv_iload_n hx hb dX0_moveTask_6 rfl (lv_at hl 2 rfl) ?_
    by_cases hc7 : (e_X0_checkCpu T C σ c9) = 0
    · skip
      refine cl_RV (k_X0_checkCpu l E q hq hT hC σ hI c9  hc7) gw_X0_76 hd_X0_checkCpu ⟨rfl, rfl⟩ S0 hK hP (rest := []) rfl hl.1 (Nat.le_of_ble_eq_true rfl) ⟨(Nat.le_of_ble_eq_true rfl), (Nat.le_of_ble_eq_true rfl)⟩ ⟨Nat.zero_le _, Nat.zero_le _⟩ dX0_moveTask_7 (fun _ => ?_)
      refine lv_aload_n hx hb dX0_moveTask_10 rfl (lv_at hl 0 rfl) ?_
      refine lv_iload_n hx hb dX0_moveTask_11 rfl (lv_at hl 1 rfl) ?_
      by_cases hc12 : (e_X0_checkNotExited T C σ t) = 0
      · skip
        refine cl_RV (k_X0_checkNotExited l E q hq hT hC σ hI t (inT0 hI0 hT hc2) hc12) gw_X0_111 hd_X0_checkNotExited ⟨rfl, rfl⟩ S0 hK hP (rest := []) rfl hl.1 (Nat.le_of_ble_eq_true rfl) ⟨(Nat.le_of_ble_eq_true rfl), (Nat.le_of_ble_eq_true rfl)⟩ ⟨Nat.zero_le _, Nat.zero_le _⟩ dX0_moveTask_12 (fun _ => ?_)
        refine lv_aload_n hx hb dX0_moveTask_15 rfl (lv_at hl 0 rfl) ?_
        refine gf_X0_19 hx hb hts hown hK hP dX0_moveTask_16 ?_
        refine lv_iload_n hx hb dX0_moveTask_19 rfl (lv_at hl 1 rfl) ?_
        refine ld_3 hx hb hK hP (inT0 hI0 hT hc2) dX0_moveTask_20 ?_
        refine lv_iconst (v := 1) hx hb dX0_moveTask_21 (by decide) ?_
        refine lv_icmp_ne (tgt := 35) hx hb dX0_moveTask_22 (by decide) (fun h22 => ?_) (fun h22 => ?_)
        · skip
          refine lv_aload_n hx hb dX0_moveTask_35 rfl (lv_at hl 0 rfl) ?_
          refine gf_X0_9 hx hb hts hown hK hP dX0_moveTask_36 ?_
          refine lv_iload_n hx hb dX0_moveTask_39 rfl (lv_at hl 1 rfl) ?_
          refine ld_0 hx hb hK hP (inT0 hI0 hT hc2) dX0_moveTask_40 ?_
          refine lv_istore_n (lv' := [(3, .int (σ.1 0 (ix t))), (0, .ref (q 0)), (1, .int t), (2, .int c9)]) hx hb dX0_moveTask_41 rfl hl (by decide) rfl (fun ls hl => ?_)
          refine lv_aload_n hx hb dX0_moveTask_42 rfl (lv_at hl 1 rfl) ?_
          refine gf_X0_19 hx hb hts hown hK hP dX0_moveTask_43 ?_
          refine lv_iload_n hx hb dX0_moveTask_46 rfl (lv_at hl 2 rfl) ?_
          refine ld_3 hx hb hK hP (inT0 hI0 hT hc2) dX0_moveTask_47 ?_
          refine cutG (fun ls H locs st => ∃ σ9 : St, σ9 = (if (σ.1 3 (ix t)) = 0 then (g_X0_moveRunnable T C σ t c9) else (sI σ 0 (ix t) c9)) ∧ st = [] ∧ lv_has ls 4 [(3, .int (σ.1 0 (ix t))), (0, .ref (q 0)), (1, .int t), (2, .int c9)] ∧ PP 0 E q σ9 H ∧ va_S (Aq q) s.heap H locs ∧ Inv T C σ9) 67 (fun ls H locs st hKp => ?_) (fun K48 => ?_)
          · revert hKp
            refine ex_eq (fun hKp => ?_)
            obtain ⟨rfl, hl, hP, hS, hI⟩ := hKp
            refine lv_iload_n hx hb dX0_moveTask_67 rfl (lv_at hl 0 rfl) ?_
            exact rt_WI hQ hx hb hr hlocks (Eq.subst (motive := fun z => PP 0 E q z H) (show (if (σ.1 3 (ix t)) = 0 then (g_X0_moveRunnable T C σ t c9) else (sI σ 0 (ix t) c9)) = (g_X0_moveTask T C σ t c9) from rfl) hP) hS ⟨rfl, ⟨Eq.subst (motive := fun z => Inv T C z) (show (if (σ.1 3 (ix t)) = 0 then (g_X0_moveRunnable T C σ t c9) else (sI σ 0 (ix t) c9)) = (g_X0_moveTask T C σ t c9) from rfl) hI, trivial⟩⟩ dX0_moveTask_68
          · refine lv_if_ne (tgt := 60) hx hb dX0_moveTask_48 (by decide) (fun h48 => ?_) (fun h48 => ?_)
            · skip
              refine lv_aload_n hx hb dX0_moveTask_60 rfl (lv_at hl 1 rfl) ?_
              refine gf_X0_9 hx hb hts hown hK hP dX0_moveTask_61 ?_
              refine lv_iload_n hx hb dX0_moveTask_64 rfl (lv_at hl 2 rfl) ?_
              refine lv_iload_n hx hb dX0_moveTask_65 rfl (lv_at hl 3 rfl) ?_
              refine st_0 hx hb hK hq hP hS (inT0 hI0 hT hc2) dX0_moveTask_66 (fun H locs hP hS => ?_)
              have hI : Inv T C (sI σ 0 (ix t) c9) := inv_cpu (inC0 hI0 hC hc7) hI
              exact K48 _ _ _ _ ⟨(sI σ 0 (ix t) c9), (Eq.symm (if_neg h48)), rfl, lv_sub hl [0, 1, 2, 3] rfl, hP, hS, hI⟩
            · skip
              refine lv_aload_n hx hb dX0_moveTask_51 rfl (lv_at hl 1 rfl) ?_
              refine lv_iload_n hx hb dX0_moveTask_52 rfl (lv_at hl 2 rfl) ?_
              refine lv_iload_n hx hb dX0_moveTask_53 rfl (lv_at hl 3 rfl) ?_
              refine cl_WV (k_X0_moveRunnable l E q hq hT hC σ hI t c9 (inT0 hI0 hT hc2) (inC0 hI0 hC hc7)) gw_X0_116 hd_X0_moveRunnable ⟨rfl, rfl⟩ S0 hK hP hS (rest := []) rfl hl.1 (Nat.le_of_ble_eq_true rfl) ⟨(Nat.le_of_ble_eq_true rfl), (Nat.le_of_ble_eq_true rfl)⟩ ⟨Nat.zero_le _, Nat.zero_le _⟩ dX0_moveTask_54 (fun H locs hP hS hex => ?_)
              obtain ⟨hI, -⟩ := hex
              refine lv_goto (tgt := 67) hx hb dX0_moveTask_57 (by decide) ?_
              exact K48 _ _ _ _ ⟨(g_X0_moveRunnable T C σ t c9), (Eq.symm (if_pos h48)), rfl, lv_sub hl [0, 1, 2, 3] rfl, hP, hS, hI⟩
        · skip
          exact absurd (Eq.trans (Eq.symm (show (e_X0_moveTask T C σ t c9) = 2 from (Eq.trans (Eq.trans (Eq.trans (if_pos hc2) (if_pos hc7)) (if_pos hc12)) (if_pos h22)))) he) (by decide)
      · skip
        exact absurd (Eq.trans (Eq.symm (show (e_X0_moveTask T C σ t c9) = 2 from (Eq.trans (Eq.trans (if_pos hc2) (if_pos hc7)) (if_neg hc12)))) he) (by decide)
    · skip
      exact absurd (Eq.trans (Eq.symm (show (e_X0_moveTask T C σ t c9) = 1 from (Eq.trans (if_pos hc2) (if_neg hc7)))) he) (by decide)
  · skip
    exact absurd (Eq.trans (Eq.symm (show (e_X0_moveTask T C σ t c9) = 1 from (if_neg hc2))) he) (by decide)
def rt_X0_moveTask : Room := { frames := 7, cells := 1, slots := 6, locals := 103 }
set_option maxHeartbeats 400000 in
set_option maxRecDepth 100000 in
theorem t_X0_moveTask (l : Launch) (hst : l.stackTraces = false) (E : Ev) (q : Nat → Nat) (hq : Dq q) {T C : Nat} (hT : T ≤ 16) (hC : 1 ≤ C ∧ C ≤ 4) (σ : St) (hI : Inv T C σ) (t : Int32) (c9 : Int32) (he : ¬ (e_X0_moveTask T C σ t c9) = 0) : TX l E q σ yX0_moveTask cX0_moveTask 4 (some .int) rt_X0_moveTask [.int t, .int c9] xISE (e_X0_moveTask T C σ t c9) := by
  refine vx_ofB (by decide) (Nat.le_of_ble_eq_true rfl) (fun p e s m args below meth c ls Q B hta hQ hPK hl => ?_)
  obtain ⟨hx, hb, hml, hr, hlocks, hown, hts⟩ := B
  have S0 : Fx p m c cX0_moveTask 4 s args RX0 := ⟨hx, hb, hml, hown, hts⟩
  obtain ⟨hP, hK, hX⟩ := hPK
  have hl : lv_has ls 4 [(0, .ref (q 0)), (1, .int t), (2, .int c9)] := hl
  have hI0 := hI
  refine lv_aload_n hx hb dX0_moveTask_0 rfl (lv_at hl 0 rfl) ?_
  refine lv_iload_n hx hb dX0_moveTask_1 rfl (lv_at hl 1 rfl) ?_
  by_cases hc2 : (e_X0_checkTask T C σ t) = 0
  · skip
    refine cl_RV (k_X0_checkTask l E q hq hT hC σ hI t  hc2) gw_X0_96 hd_X0_checkTask ⟨rfl, rfl⟩ S0 hK hP (rest := []) rfl hl.1 (Nat.le_of_ble_eq_true rfl) ⟨(Nat.le_of_ble_eq_true rfl), (Nat.le_of_ble_eq_true rfl)⟩ ⟨Nat.zero_le _, Nat.zero_le _⟩ dX0_moveTask_2 (fun _ => ?_)
    refine lv_aload_n hx hb dX0_moveTask_5 rfl (lv_at hl 0 rfl) ?_
    refine lv_iload_n hx hb dX0_moveTask_6 rfl (lv_at hl 2 rfl) ?_
    by_cases hc7 : (e_X0_checkCpu T C σ c9) = 0
    · skip
      refine cl_RV (k_X0_checkCpu l E q hq hT hC σ hI c9  hc7) gw_X0_76 hd_X0_checkCpu ⟨rfl, rfl⟩ S0 hK hP (rest := []) rfl hl.1 (Nat.le_of_ble_eq_true rfl) ⟨(Nat.le_of_ble_eq_true rfl), (Nat.le_of_ble_eq_true rfl)⟩ ⟨Nat.zero_le _, Nat.zero_le _⟩ dX0_moveTask_7 (fun _ => ?_)
      refine lv_aload_n hx hb dX0_moveTask_10 rfl (lv_at hl 0 rfl) ?_
      refine lv_iload_n hx hb dX0_moveTask_11 rfl (lv_at hl 1 rfl) ?_
      by_cases hc12 : (e_X0_checkNotExited T C σ t) = 0
      · skip
        refine cl_RV (k_X0_checkNotExited l E q hq hT hC σ hI t (inT0 hI0 hT hc2) hc12) gw_X0_111 hd_X0_checkNotExited ⟨rfl, rfl⟩ S0 hK hP (rest := []) rfl hl.1 (Nat.le_of_ble_eq_true rfl) ⟨(Nat.le_of_ble_eq_true rfl), (Nat.le_of_ble_eq_true rfl)⟩ ⟨Nat.zero_le _, Nat.zero_le _⟩ dX0_moveTask_12 (fun _ => ?_)
        refine lv_aload_n hx hb dX0_moveTask_15 rfl (lv_at hl 0 rfl) ?_
        refine gf_X0_19 hx hb hts hown hK hP dX0_moveTask_16 ?_
        refine lv_iload_n hx hb dX0_moveTask_19 rfl (lv_at hl 1 rfl) ?_
        refine ld_3 hx hb hK hP (inT0 hI0 hT hc2) dX0_moveTask_20 ?_
        refine lv_iconst (v := 1) hx hb dX0_moveTask_21 (by decide) ?_
        refine lv_icmp_ne (tgt := 35) hx hb dX0_moveTask_22 (by decide) (fun h22 => ?_) (fun h22 => ?_)
        · skip
          exact absurd (show (e_X0_moveTask T C σ t c9) = 0 from (Eq.trans (Eq.trans (Eq.trans (if_pos hc2) (if_pos hc7)) (if_pos hc12)) (if_neg h22))) he
        · skip
          exact tx_new (cls := xISE) (text := "the task is running") (ik := 88) (is := 114) (ic := 92) hQ hx hb hst hown hts hX hta hlocks (by decide) cl_X0_88 ini_IllegalStateException (by decide) at_ISE ng_ISE ot_ISE (hl.1.trans hml.symm) dX0_moveTask_25 dX0_moveTask_28 dX0_moveTask_29 dX0_moveTask_31 dX0_moveTask_34 (Nat.le_of_ble_eq_true rfl) (Nat.le_of_ble_eq_true rfl) ⟨(Nat.le_of_ble_eq_true rfl), (Nat.le_of_ble_eq_true rfl)⟩ (xn2 (show (e_X0_moveTask T C σ t c9) = 2 from (Eq.trans (Eq.trans (Eq.trans (if_pos hc2) (if_pos hc7)) (if_pos hc12)) (if_pos h22))))
      · skip
        exact cx_V hQ (t_X0_checkNotExited l hst E q hq hT hC σ hI t (inT0 hI0 hT hc2) hc12) gw_X0_111 hd_X0_checkNotExited ⟨rfl, rfl⟩ S0 hK hP hX hta hlocks (rest := []) rfl hl.1 (Nat.le_of_ble_eq_true rfl) ⟨(Nat.le_of_ble_eq_true rfl), (Nat.le_of_ble_eq_true rfl)⟩ ⟨(Nat.le_of_ble_eq_true rfl), (Nat.le_of_ble_eq_true rfl)⟩ dX0_moveTask_12 (xnc (ck_X0_checkNotExited hc12) (show (e_X0_moveTask T C σ t c9) = 2 from (Eq.trans (Eq.trans (if_pos hc2) (if_pos hc7)) (if_neg hc12))) rfl)
    · skip
      exact cx_V hQ (t_X0_checkCpu l hst E q hq hT hC σ hI c9  hc7) gw_X0_76 hd_X0_checkCpu ⟨rfl, rfl⟩ S0 hK hP hX hta hlocks (rest := []) rfl hl.1 (Nat.le_of_ble_eq_true rfl) ⟨(Nat.le_of_ble_eq_true rfl), (Nat.le_of_ble_eq_true rfl)⟩ ⟨(Nat.le_of_ble_eq_true rfl), (Nat.le_of_ble_eq_true rfl)⟩ dX0_moveTask_7 (xnc (ck_X0_checkCpu hc7) (show (e_X0_moveTask T C σ t c9) = 1 from (Eq.trans (if_pos hc2) (if_neg hc7))) rfl)
  · skip
    exact cx_V hQ (t_X0_checkTask l hst E q hq hT hC σ hI t  hc2) gw_X0_96 hd_X0_checkTask ⟨rfl, rfl⟩ S0 hK hP hX hta hlocks (rest := []) rfl hl.1 (Nat.le_of_ble_eq_true rfl) ⟨(Nat.le_of_ble_eq_true rfl), (Nat.le_of_ble_eq_true rfl)⟩ ⟨(Nat.le_of_ble_eq_true rfl), (Nat.le_of_ble_eq_true rfl)⟩ dX0_moveTask_2 (xnc (ck_X0_checkTask hc2) (show (e_X0_moveTask T C σ t c9) = 1 from (if_neg hc2)) rfl)
def f_X0_stateOf (T C : Nat) (σ : St) (t : Int32) : Int32 := (σ.1 3 (ix t))
def e_X0_stateOf (T C : Nat) (σ : St) (t : Int32) : Int32 := (if (e_X0_checkTask T C σ t) = 0 then 0 else 1)
def rm_X0_stateOf : Room := { frames := 1, cells := 0, slots := 0, locals := 21 }
set_option maxHeartbeats 400000 in
set_option maxRecDepth 100000 in
theorem k_X0_stateOf (l : Launch) (E : Ev) (q : Nat → Nat) (hq : Dq q) {T C : Nat} (hT : T ≤ 16) (hC : 1 ≤ C ∧ C ≤ 4) (σ : St) (hI : Inv T C σ) (t : Int32) (he : (e_X0_stateOf T C σ t) = 0) : RI l 0 E q σ yX0_stateOf cX0_stateOf 2 (some .int) rm_X0_stateOf [.int t] (f_X0_stateOf T C σ t) True := by
  refine Met.ofB (by decide) (Nat.le_of_ble_eq_true rfl) (fun p e s m args below meth c ls Q B hQ hPK hl => ?_)
  obtain ⟨hx, hb, hml, hr, hlocks, hown, hts⟩ := B
  have S0 : Fx p m c cX0_stateOf 2 s args RX0 := ⟨hx, hb, hml, hown, hts⟩
  obtain ⟨hP, hK⟩ := hPK
  have hl : lv_has ls 2 [(0, .ref (q 0)), (1, .int t)] := hl
  have hI0 := hI
  refine lv_aload_n hx hb dX0_stateOf_0 rfl (lv_at hl 0 rfl) ?_
  refine lv_iload_n hx hb dX0_stateOf_1 rfl (lv_at hl 1 rfl) ?_
  by_cases hc2 : (e_X0_checkTask T C σ t) = 0
  · skip
    refine cl_RV (k_X0_checkTask l E q hq hT hC σ hI t  hc2) gw_X0_96 hd_X0_checkTask ⟨rfl, rfl⟩ S0 hK hP (rest := []) rfl hl.1 (Nat.le_of_ble_eq_true rfl) ⟨(Nat.le_of_ble_eq_true rfl), (Nat.le_of_ble_eq_true rfl)⟩ ⟨Nat.zero_le _, Nat.zero_le _⟩ dX0_stateOf_2 (fun _ => ?_)
    refine lv_aload_n hx hb dX0_stateOf_5 rfl (lv_at hl 0 rfl) ?_
    refine gf_X0_19 hx hb hts hown hK hP dX0_stateOf_6 ?_
    refine lv_iload_n hx hb dX0_stateOf_9 rfl (lv_at hl 1 rfl) ?_
    refine ld_3 hx hb hK hP (inT0 hI0 hT hc2) dX0_stateOf_10 ?_
    exact rt_RI hQ hx hb hr hlocks ⟨rfl, trivial⟩ dX0_stateOf_11
  · skip
    exact absurd (Eq.trans (Eq.symm (show (e_X0_stateOf T C σ t) = 1 from (if_neg hc2))) he) (by decide)
def rt_X0_stateOf : Room := { frames := 7, cells := 1, slots := 6, locals := 103 }
set_option maxHeartbeats 400000 in
set_option maxRecDepth 100000 in
theorem t_X0_stateOf (l : Launch) (hst : l.stackTraces = false) (E : Ev) (q : Nat → Nat) (hq : Dq q) {T C : Nat} (hT : T ≤ 16) (hC : 1 ≤ C ∧ C ≤ 4) (σ : St) (hI : Inv T C σ) (t : Int32) (he : ¬ (e_X0_stateOf T C σ t) = 0) : TX l E q σ yX0_stateOf cX0_stateOf 2 (some .int) rt_X0_stateOf [.int t] xISE (e_X0_stateOf T C σ t) := by
  refine vx_ofB (by decide) (Nat.le_of_ble_eq_true rfl) (fun p e s m args below meth c ls Q B hta hQ hPK hl => ?_)
  obtain ⟨hx, hb, hml, hr, hlocks, hown, hts⟩ := B
  have S0 : Fx p m c cX0_stateOf 2 s args RX0 := ⟨hx, hb, hml, hown, hts⟩
  obtain ⟨hP, hK, hX⟩ := hPK
  have hl : lv_has ls 2 [(0, .ref (q 0)), (1, .int t)] := hl
  have hI0 := hI
  refine lv_aload_n hx hb dX0_stateOf_0 rfl (lv_at hl 0 rfl) ?_
  refine lv_iload_n hx hb dX0_stateOf_1 rfl (lv_at hl 1 rfl) ?_
  by_cases hc2 : (e_X0_checkTask T C σ t) = 0
  · skip
    refine cl_RV (k_X0_checkTask l E q hq hT hC σ hI t  hc2) gw_X0_96 hd_X0_checkTask ⟨rfl, rfl⟩ S0 hK hP (rest := []) rfl hl.1 (Nat.le_of_ble_eq_true rfl) ⟨(Nat.le_of_ble_eq_true rfl), (Nat.le_of_ble_eq_true rfl)⟩ ⟨Nat.zero_le _, Nat.zero_le _⟩ dX0_stateOf_2 (fun _ => ?_)
    exact absurd (show (e_X0_stateOf T C σ t) = 0 from (if_pos hc2)) he
  · skip
    exact cx_V hQ (t_X0_checkTask l hst E q hq hT hC σ hI t  hc2) gw_X0_96 hd_X0_checkTask ⟨rfl, rfl⟩ S0 hK hP hX hta hlocks (rest := []) rfl hl.1 (Nat.le_of_ble_eq_true rfl) ⟨(Nat.le_of_ble_eq_true rfl), (Nat.le_of_ble_eq_true rfl)⟩ ⟨(Nat.le_of_ble_eq_true rfl), (Nat.le_of_ble_eq_true rfl)⟩ dX0_stateOf_2 (xnc (ck_X0_checkTask hc2) (show (e_X0_stateOf T C σ t) = 1 from (if_neg hc2)) rfl)
def f_X0_cpuOf (T C : Nat) (σ : St) (t : Int32) : Int32 := (σ.1 0 (ix t))
def e_X0_cpuOf (T C : Nat) (σ : St) (t : Int32) : Int32 := (if (e_X0_checkTask T C σ t) = 0 then 0 else 1)
def rm_X0_cpuOf : Room := { frames := 1, cells := 0, slots := 0, locals := 21 }
set_option maxHeartbeats 400000 in
set_option maxRecDepth 100000 in
theorem k_X0_cpuOf (l : Launch) (E : Ev) (q : Nat → Nat) (hq : Dq q) {T C : Nat} (hT : T ≤ 16) (hC : 1 ≤ C ∧ C ≤ 4) (σ : St) (hI : Inv T C σ) (t : Int32) (he : (e_X0_cpuOf T C σ t) = 0) : RI l 0 E q σ yX0_cpuOf cX0_cpuOf 2 (some .int) rm_X0_cpuOf [.int t] (f_X0_cpuOf T C σ t) True := by
  refine Met.ofB (by decide) (Nat.le_of_ble_eq_true rfl) (fun p e s m args below meth c ls Q B hQ hPK hl => ?_)
  obtain ⟨hx, hb, hml, hr, hlocks, hown, hts⟩ := B
  have S0 : Fx p m c cX0_cpuOf 2 s args RX0 := ⟨hx, hb, hml, hown, hts⟩
  obtain ⟨hP, hK⟩ := hPK
  have hl : lv_has ls 2 [(0, .ref (q 0)), (1, .int t)] := hl
  have hI0 := hI
  refine lv_aload_n hx hb dX0_cpuOf_0 rfl (lv_at hl 0 rfl) ?_
  refine lv_iload_n hx hb dX0_cpuOf_1 rfl (lv_at hl 1 rfl) ?_
  by_cases hc2 : (e_X0_checkTask T C σ t) = 0
  · skip
    refine cl_RV (k_X0_checkTask l E q hq hT hC σ hI t  hc2) gw_X0_96 hd_X0_checkTask ⟨rfl, rfl⟩ S0 hK hP (rest := []) rfl hl.1 (Nat.le_of_ble_eq_true rfl) ⟨(Nat.le_of_ble_eq_true rfl), (Nat.le_of_ble_eq_true rfl)⟩ ⟨Nat.zero_le _, Nat.zero_le _⟩ dX0_cpuOf_2 (fun _ => ?_)
    refine lv_aload_n hx hb dX0_cpuOf_5 rfl (lv_at hl 0 rfl) ?_
    refine gf_X0_9 hx hb hts hown hK hP dX0_cpuOf_6 ?_
    refine lv_iload_n hx hb dX0_cpuOf_9 rfl (lv_at hl 1 rfl) ?_
    refine ld_0 hx hb hK hP (inT0 hI0 hT hc2) dX0_cpuOf_10 ?_
    exact rt_RI hQ hx hb hr hlocks ⟨rfl, trivial⟩ dX0_cpuOf_11
  · skip
    exact absurd (Eq.trans (Eq.symm (show (e_X0_cpuOf T C σ t) = 1 from (if_neg hc2))) he) (by decide)
def rt_X0_cpuOf : Room := { frames := 7, cells := 1, slots := 6, locals := 103 }
set_option maxHeartbeats 400000 in
set_option maxRecDepth 100000 in
theorem t_X0_cpuOf (l : Launch) (hst : l.stackTraces = false) (E : Ev) (q : Nat → Nat) (hq : Dq q) {T C : Nat} (hT : T ≤ 16) (hC : 1 ≤ C ∧ C ≤ 4) (σ : St) (hI : Inv T C σ) (t : Int32) (he : ¬ (e_X0_cpuOf T C σ t) = 0) : TX l E q σ yX0_cpuOf cX0_cpuOf 2 (some .int) rt_X0_cpuOf [.int t] xISE (e_X0_cpuOf T C σ t) := by
  refine vx_ofB (by decide) (Nat.le_of_ble_eq_true rfl) (fun p e s m args below meth c ls Q B hta hQ hPK hl => ?_)
  obtain ⟨hx, hb, hml, hr, hlocks, hown, hts⟩ := B
  have S0 : Fx p m c cX0_cpuOf 2 s args RX0 := ⟨hx, hb, hml, hown, hts⟩
  obtain ⟨hP, hK, hX⟩ := hPK
  have hl : lv_has ls 2 [(0, .ref (q 0)), (1, .int t)] := hl
  have hI0 := hI
  refine lv_aload_n hx hb dX0_cpuOf_0 rfl (lv_at hl 0 rfl) ?_
  refine lv_iload_n hx hb dX0_cpuOf_1 rfl (lv_at hl 1 rfl) ?_
  by_cases hc2 : (e_X0_checkTask T C σ t) = 0
  · skip
    refine cl_RV (k_X0_checkTask l E q hq hT hC σ hI t  hc2) gw_X0_96 hd_X0_checkTask ⟨rfl, rfl⟩ S0 hK hP (rest := []) rfl hl.1 (Nat.le_of_ble_eq_true rfl) ⟨(Nat.le_of_ble_eq_true rfl), (Nat.le_of_ble_eq_true rfl)⟩ ⟨Nat.zero_le _, Nat.zero_le _⟩ dX0_cpuOf_2 (fun _ => ?_)
    exact absurd (show (e_X0_cpuOf T C σ t) = 0 from (if_pos hc2)) he
  · skip
    exact cx_V hQ (t_X0_checkTask l hst E q hq hT hC σ hI t  hc2) gw_X0_96 hd_X0_checkTask ⟨rfl, rfl⟩ S0 hK hP hX hta hlocks (rest := []) rfl hl.1 (Nat.le_of_ble_eq_true rfl) ⟨(Nat.le_of_ble_eq_true rfl), (Nat.le_of_ble_eq_true rfl)⟩ ⟨(Nat.le_of_ble_eq_true rfl), (Nat.le_of_ble_eq_true rfl)⟩ dX0_cpuOf_2 (xnc (ck_X0_checkTask hc2) (show (e_X0_cpuOf T C σ t) = 1 from (if_neg hc2)) rfl)
def f_X0_runTicks (T C : Nat) (σ : St) (t : Int32) : Int32 := (σ.1 5 (ix t))
def e_X0_runTicks (T C : Nat) (σ : St) (t : Int32) : Int32 := (if (e_X0_checkTask T C σ t) = 0 then 0 else 1)
def rm_X0_runTicks : Room := { frames := 1, cells := 0, slots := 0, locals := 21 }
set_option maxHeartbeats 400000 in
set_option maxRecDepth 100000 in
theorem k_X0_runTicks (l : Launch) (E : Ev) (q : Nat → Nat) (hq : Dq q) {T C : Nat} (hT : T ≤ 16) (hC : 1 ≤ C ∧ C ≤ 4) (σ : St) (hI : Inv T C σ) (t : Int32) (he : (e_X0_runTicks T C σ t) = 0) : RI l 0 E q σ yX0_runTicks cX0_runTicks 2 (some .int) rm_X0_runTicks [.int t] (f_X0_runTicks T C σ t) True := by
  refine Met.ofB (by decide) (Nat.le_of_ble_eq_true rfl) (fun p e s m args below meth c ls Q B hQ hPK hl => ?_)
  obtain ⟨hx, hb, hml, hr, hlocks, hown, hts⟩ := B
  have S0 : Fx p m c cX0_runTicks 2 s args RX0 := ⟨hx, hb, hml, hown, hts⟩
  obtain ⟨hP, hK⟩ := hPK
  have hl : lv_has ls 2 [(0, .ref (q 0)), (1, .int t)] := hl
  have hI0 := hI
  refine lv_aload_n hx hb dX0_runTicks_0 rfl (lv_at hl 0 rfl) ?_
  refine lv_iload_n hx hb dX0_runTicks_1 rfl (lv_at hl 1 rfl) ?_
  by_cases hc2 : (e_X0_checkTask T C σ t) = 0
  · skip
    refine cl_RV (k_X0_checkTask l E q hq hT hC σ hI t  hc2) gw_X0_96 hd_X0_checkTask ⟨rfl, rfl⟩ S0 hK hP (rest := []) rfl hl.1 (Nat.le_of_ble_eq_true rfl) ⟨(Nat.le_of_ble_eq_true rfl), (Nat.le_of_ble_eq_true rfl)⟩ ⟨Nat.zero_le _, Nat.zero_le _⟩ dX0_runTicks_2 (fun _ => ?_)
    refine lv_aload_n hx hb dX0_runTicks_5 rfl (lv_at hl 0 rfl) ?_
    refine gf_X0_26 hx hb hts hown hK hP dX0_runTicks_6 ?_
    refine lv_iload_n hx hb dX0_runTicks_9 rfl (lv_at hl 1 rfl) ?_
    refine ld_5 hx hb hK hP (inT0 hI0 hT hc2) dX0_runTicks_10 ?_
    exact rt_RI hQ hx hb hr hlocks ⟨rfl, trivial⟩ dX0_runTicks_11
  · skip
    exact absurd (Eq.trans (Eq.symm (show (e_X0_runTicks T C σ t) = 1 from (if_neg hc2))) he) (by decide)
def rt_X0_runTicks : Room := { frames := 7, cells := 1, slots := 6, locals := 103 }
set_option maxHeartbeats 400000 in
set_option maxRecDepth 100000 in
theorem t_X0_runTicks (l : Launch) (hst : l.stackTraces = false) (E : Ev) (q : Nat → Nat) (hq : Dq q) {T C : Nat} (hT : T ≤ 16) (hC : 1 ≤ C ∧ C ≤ 4) (σ : St) (hI : Inv T C σ) (t : Int32) (he : ¬ (e_X0_runTicks T C σ t) = 0) : TX l E q σ yX0_runTicks cX0_runTicks 2 (some .int) rt_X0_runTicks [.int t] xISE (e_X0_runTicks T C σ t) := by
  refine vx_ofB (by decide) (Nat.le_of_ble_eq_true rfl) (fun p e s m args below meth c ls Q B hta hQ hPK hl => ?_)
  obtain ⟨hx, hb, hml, hr, hlocks, hown, hts⟩ := B
  have S0 : Fx p m c cX0_runTicks 2 s args RX0 := ⟨hx, hb, hml, hown, hts⟩
  obtain ⟨hP, hK, hX⟩ := hPK
  have hl : lv_has ls 2 [(0, .ref (q 0)), (1, .int t)] := hl
  have hI0 := hI
  refine lv_aload_n hx hb dX0_runTicks_0 rfl (lv_at hl 0 rfl) ?_
  refine lv_iload_n hx hb dX0_runTicks_1 rfl (lv_at hl 1 rfl) ?_
  by_cases hc2 : (e_X0_checkTask T C σ t) = 0
  · skip
    refine cl_RV (k_X0_checkTask l E q hq hT hC σ hI t  hc2) gw_X0_96 hd_X0_checkTask ⟨rfl, rfl⟩ S0 hK hP (rest := []) rfl hl.1 (Nat.le_of_ble_eq_true rfl) ⟨(Nat.le_of_ble_eq_true rfl), (Nat.le_of_ble_eq_true rfl)⟩ ⟨Nat.zero_le _, Nat.zero_le _⟩ dX0_runTicks_2 (fun _ => ?_)
    exact absurd (show (e_X0_runTicks T C σ t) = 0 from (if_pos hc2)) he
  · skip
    exact cx_V hQ (t_X0_checkTask l hst E q hq hT hC σ hI t  hc2) gw_X0_96 hd_X0_checkTask ⟨rfl, rfl⟩ S0 hK hP hX hta hlocks (rest := []) rfl hl.1 (Nat.le_of_ble_eq_true rfl) ⟨(Nat.le_of_ble_eq_true rfl), (Nat.le_of_ble_eq_true rfl)⟩ ⟨(Nat.le_of_ble_eq_true rfl), (Nat.le_of_ble_eq_true rfl)⟩ dX0_runTicks_2 (xnc (ck_X0_checkTask hc2) (show (e_X0_runTicks T C σ t) = 1 from (if_neg hc2)) rfl)
def f_X0_waitTicks (T C : Nat) (σ : St) (t : Int32) : Int32 := (σ.1 6 (ix t))
def e_X0_waitTicks (T C : Nat) (σ : St) (t : Int32) : Int32 := (if (e_X0_checkTask T C σ t) = 0 then 0 else 1)
def rm_X0_waitTicks : Room := { frames := 1, cells := 0, slots := 0, locals := 21 }
set_option maxHeartbeats 400000 in
set_option maxRecDepth 100000 in
theorem k_X0_waitTicks (l : Launch) (E : Ev) (q : Nat → Nat) (hq : Dq q) {T C : Nat} (hT : T ≤ 16) (hC : 1 ≤ C ∧ C ≤ 4) (σ : St) (hI : Inv T C σ) (t : Int32) (he : (e_X0_waitTicks T C σ t) = 0) : RI l 0 E q σ yX0_waitTicks cX0_waitTicks 2 (some .int) rm_X0_waitTicks [.int t] (f_X0_waitTicks T C σ t) True := by
  refine Met.ofB (by decide) (Nat.le_of_ble_eq_true rfl) (fun p e s m args below meth c ls Q B hQ hPK hl => ?_)
  obtain ⟨hx, hb, hml, hr, hlocks, hown, hts⟩ := B
  have S0 : Fx p m c cX0_waitTicks 2 s args RX0 := ⟨hx, hb, hml, hown, hts⟩
  obtain ⟨hP, hK⟩ := hPK
  have hl : lv_has ls 2 [(0, .ref (q 0)), (1, .int t)] := hl
  have hI0 := hI
  refine lv_aload_n hx hb dX0_waitTicks_0 rfl (lv_at hl 0 rfl) ?_
  refine lv_iload_n hx hb dX0_waitTicks_1 rfl (lv_at hl 1 rfl) ?_
  by_cases hc2 : (e_X0_checkTask T C σ t) = 0
  · skip
    refine cl_RV (k_X0_checkTask l E q hq hT hC σ hI t  hc2) gw_X0_96 hd_X0_checkTask ⟨rfl, rfl⟩ S0 hK hP (rest := []) rfl hl.1 (Nat.le_of_ble_eq_true rfl) ⟨(Nat.le_of_ble_eq_true rfl), (Nat.le_of_ble_eq_true rfl)⟩ ⟨Nat.zero_le _, Nat.zero_le _⟩ dX0_waitTicks_2 (fun _ => ?_)
    refine lv_aload_n hx hb dX0_waitTicks_5 rfl (lv_at hl 0 rfl) ?_
    refine gf_X0_29 hx hb hts hown hK hP dX0_waitTicks_6 ?_
    refine lv_iload_n hx hb dX0_waitTicks_9 rfl (lv_at hl 1 rfl) ?_
    refine ld_6 hx hb hK hP (inT0 hI0 hT hc2) dX0_waitTicks_10 ?_
    exact rt_RI hQ hx hb hr hlocks ⟨rfl, trivial⟩ dX0_waitTicks_11
  · skip
    exact absurd (Eq.trans (Eq.symm (show (e_X0_waitTicks T C σ t) = 1 from (if_neg hc2))) he) (by decide)
def rt_X0_waitTicks : Room := { frames := 7, cells := 1, slots := 6, locals := 103 }
set_option maxHeartbeats 400000 in
set_option maxRecDepth 100000 in
theorem t_X0_waitTicks (l : Launch) (hst : l.stackTraces = false) (E : Ev) (q : Nat → Nat) (hq : Dq q) {T C : Nat} (hT : T ≤ 16) (hC : 1 ≤ C ∧ C ≤ 4) (σ : St) (hI : Inv T C σ) (t : Int32) (he : ¬ (e_X0_waitTicks T C σ t) = 0) : TX l E q σ yX0_waitTicks cX0_waitTicks 2 (some .int) rt_X0_waitTicks [.int t] xISE (e_X0_waitTicks T C σ t) := by
  refine vx_ofB (by decide) (Nat.le_of_ble_eq_true rfl) (fun p e s m args below meth c ls Q B hta hQ hPK hl => ?_)
  obtain ⟨hx, hb, hml, hr, hlocks, hown, hts⟩ := B
  have S0 : Fx p m c cX0_waitTicks 2 s args RX0 := ⟨hx, hb, hml, hown, hts⟩
  obtain ⟨hP, hK, hX⟩ := hPK
  have hl : lv_has ls 2 [(0, .ref (q 0)), (1, .int t)] := hl
  have hI0 := hI
  refine lv_aload_n hx hb dX0_waitTicks_0 rfl (lv_at hl 0 rfl) ?_
  refine lv_iload_n hx hb dX0_waitTicks_1 rfl (lv_at hl 1 rfl) ?_
  by_cases hc2 : (e_X0_checkTask T C σ t) = 0
  · skip
    refine cl_RV (k_X0_checkTask l E q hq hT hC σ hI t  hc2) gw_X0_96 hd_X0_checkTask ⟨rfl, rfl⟩ S0 hK hP (rest := []) rfl hl.1 (Nat.le_of_ble_eq_true rfl) ⟨(Nat.le_of_ble_eq_true rfl), (Nat.le_of_ble_eq_true rfl)⟩ ⟨Nat.zero_le _, Nat.zero_le _⟩ dX0_waitTicks_2 (fun _ => ?_)
    exact absurd (show (e_X0_waitTicks T C σ t) = 0 from (if_pos hc2)) he
  · skip
    exact cx_V hQ (t_X0_checkTask l hst E q hq hT hC σ hI t  hc2) gw_X0_96 hd_X0_checkTask ⟨rfl, rfl⟩ S0 hK hP hX hta hlocks (rest := []) rfl hl.1 (Nat.le_of_ble_eq_true rfl) ⟨(Nat.le_of_ble_eq_true rfl), (Nat.le_of_ble_eq_true rfl)⟩ ⟨(Nat.le_of_ble_eq_true rfl), (Nat.le_of_ble_eq_true rfl)⟩ dX0_waitTicks_2 (xnc (ck_X0_checkTask hc2) (show (e_X0_waitTicks T C σ t) = 1 from (if_neg hc2)) rfl)
def f_X0_virtualTime (T C : Nat) (σ : St) (t : Int32) : Int64 := (σ.2.1 4 (ix t))
def e_X0_virtualTime (T C : Nat) (σ : St) (t : Int32) : Int32 := (if (e_X0_checkTask T C σ t) = 0 then 0 else 1)
def rm_X0_virtualTime : Room := { frames := 1, cells := 0, slots := 0, locals := 21 }
set_option maxHeartbeats 400000 in
set_option maxRecDepth 100000 in
theorem k_X0_virtualTime (l : Launch) (E : Ev) (q : Nat → Nat) (hq : Dq q) {T C : Nat} (hT : T ≤ 16) (hC : 1 ≤ C ∧ C ≤ 4) (σ : St) (hI : Inv T C σ) (t : Int32) (he : (e_X0_virtualTime T C σ t) = 0) : RJ l 0 E q σ yX0_virtualTime cX0_virtualTime 2 (some .long) rm_X0_virtualTime [.int t] (f_X0_virtualTime T C σ t) True := by
  refine Met.ofB (by decide) (Nat.le_of_ble_eq_true rfl) (fun p e s m args below meth c ls Q B hQ hPK hl => ?_)
  obtain ⟨hx, hb, hml, hr, hlocks, hown, hts⟩ := B
  have S0 : Fx p m c cX0_virtualTime 2 s args RX0 := ⟨hx, hb, hml, hown, hts⟩
  obtain ⟨hP, hK⟩ := hPK
  have hl : lv_has ls 2 [(0, .ref (q 0)), (1, .int t)] := hl
  have hI0 := hI
  refine lv_aload_n hx hb dX0_virtualTime_0 rfl (lv_at hl 0 rfl) ?_
  refine lv_iload_n hx hb dX0_virtualTime_1 rfl (lv_at hl 1 rfl) ?_
  by_cases hc2 : (e_X0_checkTask T C σ t) = 0
  · skip
    refine cl_RV (k_X0_checkTask l E q hq hT hC σ hI t  hc2) gw_X0_96 hd_X0_checkTask ⟨rfl, rfl⟩ S0 hK hP (rest := []) rfl hl.1 (Nat.le_of_ble_eq_true rfl) ⟨(Nat.le_of_ble_eq_true rfl), (Nat.le_of_ble_eq_true rfl)⟩ ⟨Nat.zero_le _, Nat.zero_le _⟩ dX0_virtualTime_2 (fun _ => ?_)
    refine lv_aload_n hx hb dX0_virtualTime_5 rfl (lv_at hl 0 rfl) ?_
    refine gf_X0_22 hx hb hts hown hK hP dX0_virtualTime_6 ?_
    refine lv_iload_n hx hb dX0_virtualTime_9 rfl (lv_at hl 1 rfl) ?_
    refine ld_4 hx hb hK hP (inT0 hI0 hT hc2) dX0_virtualTime_10 ?_
    exact rt_RJ hQ hx hb hr hlocks ⟨rfl, trivial⟩ dX0_virtualTime_11
  · skip
    exact absurd (Eq.trans (Eq.symm (show (e_X0_virtualTime T C σ t) = 1 from (if_neg hc2))) he) (by decide)
def rt_X0_virtualTime : Room := { frames := 7, cells := 1, slots := 6, locals := 103 }
set_option maxHeartbeats 400000 in
set_option maxRecDepth 100000 in
theorem t_X0_virtualTime (l : Launch) (hst : l.stackTraces = false) (E : Ev) (q : Nat → Nat) (hq : Dq q) {T C : Nat} (hT : T ≤ 16) (hC : 1 ≤ C ∧ C ≤ 4) (σ : St) (hI : Inv T C σ) (t : Int32) (he : ¬ (e_X0_virtualTime T C σ t) = 0) : TX l E q σ yX0_virtualTime cX0_virtualTime 2 (some .long) rt_X0_virtualTime [.int t] xISE (e_X0_virtualTime T C σ t) := by
  refine vx_ofB (by decide) (Nat.le_of_ble_eq_true rfl) (fun p e s m args below meth c ls Q B hta hQ hPK hl => ?_)
  obtain ⟨hx, hb, hml, hr, hlocks, hown, hts⟩ := B
  have S0 : Fx p m c cX0_virtualTime 2 s args RX0 := ⟨hx, hb, hml, hown, hts⟩
  obtain ⟨hP, hK, hX⟩ := hPK
  have hl : lv_has ls 2 [(0, .ref (q 0)), (1, .int t)] := hl
  have hI0 := hI
  refine lv_aload_n hx hb dX0_virtualTime_0 rfl (lv_at hl 0 rfl) ?_
  refine lv_iload_n hx hb dX0_virtualTime_1 rfl (lv_at hl 1 rfl) ?_
  by_cases hc2 : (e_X0_checkTask T C σ t) = 0
  · skip
    refine cl_RV (k_X0_checkTask l E q hq hT hC σ hI t  hc2) gw_X0_96 hd_X0_checkTask ⟨rfl, rfl⟩ S0 hK hP (rest := []) rfl hl.1 (Nat.le_of_ble_eq_true rfl) ⟨(Nat.le_of_ble_eq_true rfl), (Nat.le_of_ble_eq_true rfl)⟩ ⟨Nat.zero_le _, Nat.zero_le _⟩ dX0_virtualTime_2 (fun _ => ?_)
    exact absurd (show (e_X0_virtualTime T C σ t) = 0 from (if_pos hc2)) he
  · skip
    exact cx_V hQ (t_X0_checkTask l hst E q hq hT hC σ hI t  hc2) gw_X0_96 hd_X0_checkTask ⟨rfl, rfl⟩ S0 hK hP hX hta hlocks (rest := []) rfl hl.1 (Nat.le_of_ble_eq_true rfl) ⟨(Nat.le_of_ble_eq_true rfl), (Nat.le_of_ble_eq_true rfl)⟩ ⟨(Nat.le_of_ble_eq_true rfl), (Nat.le_of_ble_eq_true rfl)⟩ dX0_virtualTime_2 (xnc (ck_X0_checkTask hc2) (show (e_X0_virtualTime T C σ t) = 1 from (if_neg hc2)) rfl)
def f_X0_runningTask (T C : Nat) (σ : St) (c9 : Int32) : Int32 := (σ.1 8 (ix c9))
def e_X0_runningTask (T C : Nat) (σ : St) (c9 : Int32) : Int32 := (if (e_X0_checkCpu T C σ c9) = 0 then 0 else 1)
def rm_X0_runningTask : Room := { frames := 2, cells := 0, slots := 0, locals := 41 }
set_option maxHeartbeats 400000 in
set_option maxRecDepth 100000 in
theorem k_X0_runningTask (l : Launch) (E : Ev) (q : Nat → Nat) (hq : Dq q) {T C : Nat} (hT : T ≤ 16) (hC : 1 ≤ C ∧ C ≤ 4) (σ : St) (hI : Inv T C σ) (c9 : Int32) (he : (e_X0_runningTask T C σ c9) = 0) : RI l 0 E q σ yX0_runningTask cX0_runningTask 2 (some .int) rm_X0_runningTask [.int c9] (f_X0_runningTask T C σ c9) True := by
  refine Met.ofB (by decide) (Nat.le_of_ble_eq_true rfl) (fun p e s m args below meth c ls Q B hQ hPK hl => ?_)
  obtain ⟨hx, hb, hml, hr, hlocks, hown, hts⟩ := B
  have S0 : Fx p m c cX0_runningTask 2 s args RX0 := ⟨hx, hb, hml, hown, hts⟩
  obtain ⟨hP, hK⟩ := hPK
  have hl : lv_has ls 2 [(0, .ref (q 0)), (1, .int c9)] := hl
  have hI0 := hI
  refine lv_aload_n hx hb dX0_runningTask_0 rfl (lv_at hl 0 rfl) ?_
  refine lv_iload_n hx hb dX0_runningTask_1 rfl (lv_at hl 1 rfl) ?_
  by_cases hc2 : (e_X0_checkCpu T C σ c9) = 0
  · skip
    refine cl_RV (k_X0_checkCpu l E q hq hT hC σ hI c9  hc2) gw_X0_76 hd_X0_checkCpu ⟨rfl, rfl⟩ S0 hK hP (rest := []) rfl hl.1 (Nat.le_of_ble_eq_true rfl) ⟨(Nat.le_of_ble_eq_true rfl), (Nat.le_of_ble_eq_true rfl)⟩ ⟨Nat.zero_le _, Nat.zero_le _⟩ dX0_runningTask_2 (fun _ => ?_)
    refine lv_aload_n hx hb dX0_runningTask_5 rfl (lv_at hl 0 rfl) ?_
    refine gf_X0_35 hx hb hts hown hK hP dX0_runningTask_6 ?_
    refine lv_iload_n hx hb dX0_runningTask_9 rfl (lv_at hl 1 rfl) ?_
    refine ld_8 hx hb hK hP (inC0 hI0 hC hc2) dX0_runningTask_10 ?_
    exact rt_RI hQ hx hb hr hlocks ⟨rfl, trivial⟩ dX0_runningTask_11
  · skip
    exact absurd (Eq.trans (Eq.symm (show (e_X0_runningTask T C σ c9) = 1 from (if_neg hc2))) he) (by decide)
def rt_X0_runningTask : Room := { frames := 7, cells := 1, slots := 6, locals := 103 }
set_option maxHeartbeats 400000 in
set_option maxRecDepth 100000 in
theorem t_X0_runningTask (l : Launch) (hst : l.stackTraces = false) (E : Ev) (q : Nat → Nat) (hq : Dq q) {T C : Nat} (hT : T ≤ 16) (hC : 1 ≤ C ∧ C ≤ 4) (σ : St) (hI : Inv T C σ) (c9 : Int32) (he : ¬ (e_X0_runningTask T C σ c9) = 0) : TX l E q σ yX0_runningTask cX0_runningTask 2 (some .int) rt_X0_runningTask [.int c9] xISE (e_X0_runningTask T C σ c9) := by
  refine vx_ofB (by decide) (Nat.le_of_ble_eq_true rfl) (fun p e s m args below meth c ls Q B hta hQ hPK hl => ?_)
  obtain ⟨hx, hb, hml, hr, hlocks, hown, hts⟩ := B
  have S0 : Fx p m c cX0_runningTask 2 s args RX0 := ⟨hx, hb, hml, hown, hts⟩
  obtain ⟨hP, hK, hX⟩ := hPK
  have hl : lv_has ls 2 [(0, .ref (q 0)), (1, .int c9)] := hl
  have hI0 := hI
  refine lv_aload_n hx hb dX0_runningTask_0 rfl (lv_at hl 0 rfl) ?_
  refine lv_iload_n hx hb dX0_runningTask_1 rfl (lv_at hl 1 rfl) ?_
  by_cases hc2 : (e_X0_checkCpu T C σ c9) = 0
  · skip
    refine cl_RV (k_X0_checkCpu l E q hq hT hC σ hI c9  hc2) gw_X0_76 hd_X0_checkCpu ⟨rfl, rfl⟩ S0 hK hP (rest := []) rfl hl.1 (Nat.le_of_ble_eq_true rfl) ⟨(Nat.le_of_ble_eq_true rfl), (Nat.le_of_ble_eq_true rfl)⟩ ⟨Nat.zero_le _, Nat.zero_le _⟩ dX0_runningTask_2 (fun _ => ?_)
    exact absurd (show (e_X0_runningTask T C σ c9) = 0 from (if_pos hc2)) he
  · skip
    exact cx_V hQ (t_X0_checkCpu l hst E q hq hT hC σ hI c9  hc2) gw_X0_76 hd_X0_checkCpu ⟨rfl, rfl⟩ S0 hK hP hX hta hlocks (rest := []) rfl hl.1 (Nat.le_of_ble_eq_true rfl) ⟨(Nat.le_of_ble_eq_true rfl), (Nat.le_of_ble_eq_true rfl)⟩ ⟨(Nat.le_of_ble_eq_true rfl), (Nat.le_of_ble_eq_true rfl)⟩ dX0_runningTask_2 (xnc (ck_X0_checkCpu hc2) (show (e_X0_runningTask T C σ c9) = 1 from (if_neg hc2)) rfl)
def f_X0_coreCookie (T C : Nat) (σ : St) (c9 : Int32) : Int32 := (σ.1 12 (ix c9))
def e_X0_coreCookie (T C : Nat) (σ : St) (c9 : Int32) : Int32 := (if (e_X0_checkCore T C σ c9) = 0 then 0 else 1)
def rm_X0_coreCookie : Room := { frames := 1, cells := 0, slots := 0, locals := 21 }
set_option maxHeartbeats 400000 in
set_option maxRecDepth 100000 in
theorem k_X0_coreCookie (l : Launch) (E : Ev) (q : Nat → Nat) (hq : Dq q) {T C : Nat} (hT : T ≤ 16) (hC : 1 ≤ C ∧ C ≤ 4) (σ : St) (hI : Inv T C σ) (c9 : Int32) (he : (e_X0_coreCookie T C σ c9) = 0) : RI l 0 E q σ yX0_coreCookie cX0_coreCookie 2 (some .int) rm_X0_coreCookie [.int c9] (f_X0_coreCookie T C σ c9) True := by
  refine Met.ofB (by decide) (Nat.le_of_ble_eq_true rfl) (fun p e s m args below meth c ls Q B hQ hPK hl => ?_)
  obtain ⟨hx, hb, hml, hr, hlocks, hown, hts⟩ := B
  have S0 : Fx p m c cX0_coreCookie 2 s args RX0 := ⟨hx, hb, hml, hown, hts⟩
  obtain ⟨hP, hK⟩ := hPK
  have hl : lv_has ls 2 [(0, .ref (q 0)), (1, .int c9)] := hl
  have hI0 := hI
  refine lv_aload_n hx hb dX0_coreCookie_0 rfl (lv_at hl 0 rfl) ?_
  refine lv_iload_n hx hb dX0_coreCookie_1 rfl (lv_at hl 1 rfl) ?_
  by_cases hc2 : (e_X0_checkCore T C σ c9) = 0
  · skip
    refine cl_RV (k_X0_checkCore l E q hq hT hC σ hI c9  hc2) gw_X0_120 hd_X0_checkCore ⟨rfl, rfl⟩ S0 hK hP (rest := []) rfl hl.1 (Nat.le_of_ble_eq_true rfl) ⟨(Nat.le_of_ble_eq_true rfl), (Nat.le_of_ble_eq_true rfl)⟩ ⟨Nat.zero_le _, Nat.zero_le _⟩ dX0_coreCookie_2 (fun _ => ?_)
    refine lv_aload_n hx hb dX0_coreCookie_5 rfl (lv_at hl 0 rfl) ?_
    refine gf_X0_48 hx hb hts hown hK hP dX0_coreCookie_6 ?_
    refine lv_iload_n hx hb dX0_coreCookie_9 rfl (lv_at hl 1 rfl) ?_
    refine ld_12 hx hb hK hP (inR0 hI0 hC hc2) dX0_coreCookie_10 ?_
    exact rt_RI hQ hx hb hr hlocks ⟨rfl, trivial⟩ dX0_coreCookie_11
  · skip
    exact absurd (Eq.trans (Eq.symm (show (e_X0_coreCookie T C σ c9) = 1 from (if_neg hc2))) he) (by decide)
def rt_X0_coreCookie : Room := { frames := 7, cells := 1, slots := 6, locals := 103 }
set_option maxHeartbeats 400000 in
set_option maxRecDepth 100000 in
theorem t_X0_coreCookie (l : Launch) (hst : l.stackTraces = false) (E : Ev) (q : Nat → Nat) (hq : Dq q) {T C : Nat} (hT : T ≤ 16) (hC : 1 ≤ C ∧ C ≤ 4) (σ : St) (hI : Inv T C σ) (c9 : Int32) (he : ¬ (e_X0_coreCookie T C σ c9) = 0) : TX l E q σ yX0_coreCookie cX0_coreCookie 2 (some .int) rt_X0_coreCookie [.int c9] xISE (e_X0_coreCookie T C σ c9) := by
  refine vx_ofB (by decide) (Nat.le_of_ble_eq_true rfl) (fun p e s m args below meth c ls Q B hta hQ hPK hl => ?_)
  obtain ⟨hx, hb, hml, hr, hlocks, hown, hts⟩ := B
  have S0 : Fx p m c cX0_coreCookie 2 s args RX0 := ⟨hx, hb, hml, hown, hts⟩
  obtain ⟨hP, hK, hX⟩ := hPK
  have hl : lv_has ls 2 [(0, .ref (q 0)), (1, .int c9)] := hl
  have hI0 := hI
  refine lv_aload_n hx hb dX0_coreCookie_0 rfl (lv_at hl 0 rfl) ?_
  refine lv_iload_n hx hb dX0_coreCookie_1 rfl (lv_at hl 1 rfl) ?_
  by_cases hc2 : (e_X0_checkCore T C σ c9) = 0
  · skip
    refine cl_RV (k_X0_checkCore l E q hq hT hC σ hI c9  hc2) gw_X0_120 hd_X0_checkCore ⟨rfl, rfl⟩ S0 hK hP (rest := []) rfl hl.1 (Nat.le_of_ble_eq_true rfl) ⟨(Nat.le_of_ble_eq_true rfl), (Nat.le_of_ble_eq_true rfl)⟩ ⟨Nat.zero_le _, Nat.zero_le _⟩ dX0_coreCookie_2 (fun _ => ?_)
    exact absurd (show (e_X0_coreCookie T C σ c9) = 0 from (if_pos hc2)) he
  · skip
    exact cx_V hQ (t_X0_checkCore l hst E q hq hT hC σ hI c9  hc2) gw_X0_120 hd_X0_checkCore ⟨rfl, rfl⟩ S0 hK hP hX hta hlocks (rest := []) rfl hl.1 (Nat.le_of_ble_eq_true rfl) ⟨(Nat.le_of_ble_eq_true rfl), (Nat.le_of_ble_eq_true rfl)⟩ ⟨(Nat.le_of_ble_eq_true rfl), (Nat.le_of_ble_eq_true rfl)⟩ dX0_coreCookie_2 (xnc (ck_X0_checkCore hc2) (show (e_X0_coreCookie T C σ c9) = 1 from (if_neg hc2)) rfl)
def f_X0_leaderOf (T C : Nat) (σ : St) (c9 : Int32) : Int32 := (f_X0_findLeader T C σ c9)
def e_X0_leaderOf (T C : Nat) (σ : St) (c9 : Int32) : Int32 := (if (e_X0_checkCore T C σ c9) = 0 then 0 else 1)
def rm_X0_leaderOf : Room := { frames := 3, cells := 0, slots := 0, locals := 70 }
set_option maxHeartbeats 400000 in
set_option maxRecDepth 100000 in
theorem k_X0_leaderOf (l : Launch) (E : Ev) (q : Nat → Nat) (hq : Dq q) {T C : Nat} (hT : T ≤ 16) (hC : 1 ≤ C ∧ C ≤ 4) (σ : St) (hI : Inv T C σ) (c9 : Int32) (he : (e_X0_leaderOf T C σ c9) = 0) : RI l 0 E q σ yX0_leaderOf cX0_leaderOf 2 (some .int) rm_X0_leaderOf [.int c9] (f_X0_leaderOf T C σ c9) True := by
  refine Met.ofB (by decide) (Nat.le_of_ble_eq_true rfl) (fun p e s m args below meth c ls Q B hQ hPK hl => ?_)
  obtain ⟨hx, hb, hml, hr, hlocks, hown, hts⟩ := B
  have S0 : Fx p m c cX0_leaderOf 2 s args RX0 := ⟨hx, hb, hml, hown, hts⟩
  obtain ⟨hP, hK⟩ := hPK
  have hl : lv_has ls 2 [(0, .ref (q 0)), (1, .int c9)] := hl
  have hI0 := hI
  refine lv_aload_n hx hb dX0_leaderOf_0 rfl (lv_at hl 0 rfl) ?_
  refine lv_iload_n hx hb dX0_leaderOf_1 rfl (lv_at hl 1 rfl) ?_
  by_cases hc2 : (e_X0_checkCore T C σ c9) = 0
  · skip
    refine cl_RV (k_X0_checkCore l E q hq hT hC σ hI c9  hc2) gw_X0_120 hd_X0_checkCore ⟨rfl, rfl⟩ S0 hK hP (rest := []) rfl hl.1 (Nat.le_of_ble_eq_true rfl) ⟨(Nat.le_of_ble_eq_true rfl), (Nat.le_of_ble_eq_true rfl)⟩ ⟨Nat.zero_le _, Nat.zero_le _⟩ dX0_leaderOf_2 (fun _ => ?_)
    refine lv_aload_n hx hb dX0_leaderOf_5 rfl (lv_at hl 0 rfl) ?_
    refine lv_iload_n hx hb dX0_leaderOf_6 rfl (lv_at hl 1 rfl) ?_
    refine cl_RI (k_X0_findLeader l E q hq hT hC σ hI c9 ) gw_X0_123 hd_X0_findLeader ⟨rfl, rfl⟩ S0 hK hP (rest := []) rfl hl.1 (Nat.le_of_ble_eq_true rfl) ⟨(Nat.le_of_ble_eq_true rfl), (Nat.le_of_ble_eq_true rfl)⟩ ⟨Nat.zero_le _, Nat.zero_le _⟩ dX0_leaderOf_7 (fun hex => ?_)
    obtain ⟨hx7_0, -⟩ := hex
    exact rt_RI hQ hx hb hr hlocks ⟨rfl, trivial⟩ dX0_leaderOf_10
  · skip
    exact absurd (Eq.trans (Eq.symm (show (e_X0_leaderOf T C σ c9) = 1 from (if_neg hc2))) he) (by decide)
def rt_X0_leaderOf : Room := { frames := 7, cells := 1, slots := 6, locals := 103 }
set_option maxHeartbeats 400000 in
set_option maxRecDepth 100000 in
theorem t_X0_leaderOf (l : Launch) (hst : l.stackTraces = false) (E : Ev) (q : Nat → Nat) (hq : Dq q) {T C : Nat} (hT : T ≤ 16) (hC : 1 ≤ C ∧ C ≤ 4) (σ : St) (hI : Inv T C σ) (c9 : Int32) (he : ¬ (e_X0_leaderOf T C σ c9) = 0) : TX l E q σ yX0_leaderOf cX0_leaderOf 2 (some .int) rt_X0_leaderOf [.int c9] xISE (e_X0_leaderOf T C σ c9) := by
  refine vx_ofB (by decide) (Nat.le_of_ble_eq_true rfl) (fun p e s m args below meth c ls Q B hta hQ hPK hl => ?_)
  obtain ⟨hx, hb, hml, hr, hlocks, hown, hts⟩ := B
  have S0 : Fx p m c cX0_leaderOf 2 s args RX0 := ⟨hx, hb, hml, hown, hts⟩
  obtain ⟨hP, hK, hX⟩ := hPK
  have hl : lv_has ls 2 [(0, .ref (q 0)), (1, .int c9)] := hl
  have hI0 := hI
  refine lv_aload_n hx hb dX0_leaderOf_0 rfl (lv_at hl 0 rfl) ?_
  refine lv_iload_n hx hb dX0_leaderOf_1 rfl (lv_at hl 1 rfl) ?_
  by_cases hc2 : (e_X0_checkCore T C σ c9) = 0
  · skip
    refine cl_RV (k_X0_checkCore l E q hq hT hC σ hI c9  hc2) gw_X0_120 hd_X0_checkCore ⟨rfl, rfl⟩ S0 hK hP (rest := []) rfl hl.1 (Nat.le_of_ble_eq_true rfl) ⟨(Nat.le_of_ble_eq_true rfl), (Nat.le_of_ble_eq_true rfl)⟩ ⟨Nat.zero_le _, Nat.zero_le _⟩ dX0_leaderOf_2 (fun _ => ?_)
    exact absurd (show (e_X0_leaderOf T C σ c9) = 0 from (if_pos hc2)) he
  · skip
    exact cx_V hQ (t_X0_checkCore l hst E q hq hT hC σ hI c9  hc2) gw_X0_120 hd_X0_checkCore ⟨rfl, rfl⟩ S0 hK hP hX hta hlocks (rest := []) rfl hl.1 (Nat.le_of_ble_eq_true rfl) ⟨(Nat.le_of_ble_eq_true rfl), (Nat.le_of_ble_eq_true rfl)⟩ ⟨(Nat.le_of_ble_eq_true rfl), (Nat.le_of_ble_eq_true rfl)⟩ dX0_leaderOf_2 (xnc (ck_X0_checkCore hc2) (show (e_X0_leaderOf T C σ c9) = 1 from (if_neg hc2)) rfl)
def f_X0_queueLength (T C : Nat) (σ : St) (c9 : Int32) : Int32 := (f_X0_countQueue T C σ c9)
def e_X0_queueLength (T C : Nat) (σ : St) (c9 : Int32) : Int32 := (if (e_X0_checkCpu T C σ c9) = 0 then 0 else 1)
def rm_X0_queueLength : Room := { frames := 3, cells := 0, slots := 0, locals := 66 }
set_option maxHeartbeats 400000 in
set_option maxRecDepth 100000 in
theorem k_X0_queueLength (l : Launch) (E : Ev) (q : Nat → Nat) (hq : Dq q) {T C : Nat} (hT : T ≤ 16) (hC : 1 ≤ C ∧ C ≤ 4) (σ : St) (hI : Inv T C σ) (c9 : Int32) (he : (e_X0_queueLength T C σ c9) = 0) : RI l 0 E q σ yX0_queueLength cX0_queueLength 2 (some .int) rm_X0_queueLength [.int c9] (f_X0_queueLength T C σ c9) True := by
  refine Met.ofB (by decide) (Nat.le_of_ble_eq_true rfl) (fun p e s m args below meth c ls Q B hQ hPK hl => ?_)
  obtain ⟨hx, hb, hml, hr, hlocks, hown, hts⟩ := B
  have S0 : Fx p m c cX0_queueLength 2 s args RX0 := ⟨hx, hb, hml, hown, hts⟩
  obtain ⟨hP, hK⟩ := hPK
  have hl : lv_has ls 2 [(0, .ref (q 0)), (1, .int c9)] := hl
  have hI0 := hI
  refine lv_aload_n hx hb dX0_queueLength_0 rfl (lv_at hl 0 rfl) ?_
  refine lv_iload_n hx hb dX0_queueLength_1 rfl (lv_at hl 1 rfl) ?_
  by_cases hc2 : (e_X0_checkCpu T C σ c9) = 0
  · skip
    refine cl_RV (k_X0_checkCpu l E q hq hT hC σ hI c9  hc2) gw_X0_76 hd_X0_checkCpu ⟨rfl, rfl⟩ S0 hK hP (rest := []) rfl hl.1 (Nat.le_of_ble_eq_true rfl) ⟨(Nat.le_of_ble_eq_true rfl), (Nat.le_of_ble_eq_true rfl)⟩ ⟨Nat.zero_le _, Nat.zero_le _⟩ dX0_queueLength_2 (fun _ => ?_)
    refine lv_aload_n hx hb dX0_queueLength_5 rfl (lv_at hl 0 rfl) ?_
    refine lv_iload_n hx hb dX0_queueLength_6 rfl (lv_at hl 1 rfl) ?_
    refine cl_RI (k_X0_countQueue l E q hq hT hC σ hI c9 ) gw_X0_127 hd_X0_countQueue ⟨rfl, rfl⟩ S0 hK hP (rest := []) rfl hl.1 (Nat.le_of_ble_eq_true rfl) ⟨(Nat.le_of_ble_eq_true rfl), (Nat.le_of_ble_eq_true rfl)⟩ ⟨Nat.zero_le _, Nat.zero_le _⟩ dX0_queueLength_7 (fun hex => ?_)
    exact rt_RI hQ hx hb hr hlocks ⟨rfl, trivial⟩ dX0_queueLength_10
  · skip
    exact absurd (Eq.trans (Eq.symm (show (e_X0_queueLength T C σ c9) = 1 from (if_neg hc2))) he) (by decide)
def rt_X0_queueLength : Room := { frames := 7, cells := 1, slots := 6, locals := 103 }
set_option maxHeartbeats 400000 in
set_option maxRecDepth 100000 in
theorem t_X0_queueLength (l : Launch) (hst : l.stackTraces = false) (E : Ev) (q : Nat → Nat) (hq : Dq q) {T C : Nat} (hT : T ≤ 16) (hC : 1 ≤ C ∧ C ≤ 4) (σ : St) (hI : Inv T C σ) (c9 : Int32) (he : ¬ (e_X0_queueLength T C σ c9) = 0) : TX l E q σ yX0_queueLength cX0_queueLength 2 (some .int) rt_X0_queueLength [.int c9] xISE (e_X0_queueLength T C σ c9) := by
  refine vx_ofB (by decide) (Nat.le_of_ble_eq_true rfl) (fun p e s m args below meth c ls Q B hta hQ hPK hl => ?_)
  obtain ⟨hx, hb, hml, hr, hlocks, hown, hts⟩ := B
  have S0 : Fx p m c cX0_queueLength 2 s args RX0 := ⟨hx, hb, hml, hown, hts⟩
  obtain ⟨hP, hK, hX⟩ := hPK
  have hl : lv_has ls 2 [(0, .ref (q 0)), (1, .int c9)] := hl
  have hI0 := hI
  refine lv_aload_n hx hb dX0_queueLength_0 rfl (lv_at hl 0 rfl) ?_
  refine lv_iload_n hx hb dX0_queueLength_1 rfl (lv_at hl 1 rfl) ?_
  by_cases hc2 : (e_X0_checkCpu T C σ c9) = 0
  · skip
    refine cl_RV (k_X0_checkCpu l E q hq hT hC σ hI c9  hc2) gw_X0_76 hd_X0_checkCpu ⟨rfl, rfl⟩ S0 hK hP (rest := []) rfl hl.1 (Nat.le_of_ble_eq_true rfl) ⟨(Nat.le_of_ble_eq_true rfl), (Nat.le_of_ble_eq_true rfl)⟩ ⟨Nat.zero_le _, Nat.zero_le _⟩ dX0_queueLength_2 (fun _ => ?_)
    exact absurd (show (e_X0_queueLength T C σ c9) = 0 from (if_pos hc2)) he
  · skip
    exact cx_V hQ (t_X0_checkCpu l hst E q hq hT hC σ hI c9  hc2) gw_X0_76 hd_X0_checkCpu ⟨rfl, rfl⟩ S0 hK hP hX hta hlocks (rest := []) rfl hl.1 (Nat.le_of_ble_eq_true rfl) ⟨(Nat.le_of_ble_eq_true rfl), (Nat.le_of_ble_eq_true rfl)⟩ ⟨(Nat.le_of_ble_eq_true rfl), (Nat.le_of_ble_eq_true rfl)⟩ dX0_queueLength_2 (xnc (ck_X0_checkCpu hc2) (show (e_X0_queueLength T C σ c9) = 1 from (if_neg hc2)) rfl)
def f_X0_baseOf (T C : Nat) (σ : St) (c9 : Int32) : Int64 := (σ.2.1 7 (ix c9))
def e_X0_baseOf (T C : Nat) (σ : St) (c9 : Int32) : Int32 := (if (e_X0_checkCpu T C σ c9) = 0 then 0 else 1)
def rm_X0_baseOf : Room := { frames := 2, cells := 0, slots := 0, locals := 41 }
set_option maxHeartbeats 400000 in
set_option maxRecDepth 100000 in
theorem k_X0_baseOf (l : Launch) (E : Ev) (q : Nat → Nat) (hq : Dq q) {T C : Nat} (hT : T ≤ 16) (hC : 1 ≤ C ∧ C ≤ 4) (σ : St) (hI : Inv T C σ) (c9 : Int32) (he : (e_X0_baseOf T C σ c9) = 0) : RJ l 0 E q σ yX0_baseOf cX0_baseOf 2 (some .long) rm_X0_baseOf [.int c9] (f_X0_baseOf T C σ c9) True := by
  refine Met.ofB (by decide) (Nat.le_of_ble_eq_true rfl) (fun p e s m args below meth c ls Q B hQ hPK hl => ?_)
  obtain ⟨hx, hb, hml, hr, hlocks, hown, hts⟩ := B
  have S0 : Fx p m c cX0_baseOf 2 s args RX0 := ⟨hx, hb, hml, hown, hts⟩
  obtain ⟨hP, hK⟩ := hPK
  have hl : lv_has ls 2 [(0, .ref (q 0)), (1, .int c9)] := hl
  have hI0 := hI
  refine lv_aload_n hx hb dX0_baseOf_0 rfl (lv_at hl 0 rfl) ?_
  refine lv_iload_n hx hb dX0_baseOf_1 rfl (lv_at hl 1 rfl) ?_
  by_cases hc2 : (e_X0_checkCpu T C σ c9) = 0
  · skip
    refine cl_RV (k_X0_checkCpu l E q hq hT hC σ hI c9  hc2) gw_X0_76 hd_X0_checkCpu ⟨rfl, rfl⟩ S0 hK hP (rest := []) rfl hl.1 (Nat.le_of_ble_eq_true rfl) ⟨(Nat.le_of_ble_eq_true rfl), (Nat.le_of_ble_eq_true rfl)⟩ ⟨Nat.zero_le _, Nat.zero_le _⟩ dX0_baseOf_2 (fun _ => ?_)
    refine lv_aload_n hx hb dX0_baseOf_5 rfl (lv_at hl 0 rfl) ?_
    refine gf_X0_32 hx hb hts hown hK hP dX0_baseOf_6 ?_
    refine lv_iload_n hx hb dX0_baseOf_9 rfl (lv_at hl 1 rfl) ?_
    refine ld_7 hx hb hK hP (inC0 hI0 hC hc2) dX0_baseOf_10 ?_
    exact rt_RJ hQ hx hb hr hlocks ⟨rfl, trivial⟩ dX0_baseOf_11
  · skip
    exact absurd (Eq.trans (Eq.symm (show (e_X0_baseOf T C σ c9) = 1 from (if_neg hc2))) he) (by decide)
def rt_X0_baseOf : Room := { frames := 7, cells := 1, slots := 6, locals := 103 }
set_option maxHeartbeats 400000 in
set_option maxRecDepth 100000 in
theorem t_X0_baseOf (l : Launch) (hst : l.stackTraces = false) (E : Ev) (q : Nat → Nat) (hq : Dq q) {T C : Nat} (hT : T ≤ 16) (hC : 1 ≤ C ∧ C ≤ 4) (σ : St) (hI : Inv T C σ) (c9 : Int32) (he : ¬ (e_X0_baseOf T C σ c9) = 0) : TX l E q σ yX0_baseOf cX0_baseOf 2 (some .long) rt_X0_baseOf [.int c9] xISE (e_X0_baseOf T C σ c9) := by
  refine vx_ofB (by decide) (Nat.le_of_ble_eq_true rfl) (fun p e s m args below meth c ls Q B hta hQ hPK hl => ?_)
  obtain ⟨hx, hb, hml, hr, hlocks, hown, hts⟩ := B
  have S0 : Fx p m c cX0_baseOf 2 s args RX0 := ⟨hx, hb, hml, hown, hts⟩
  obtain ⟨hP, hK, hX⟩ := hPK
  have hl : lv_has ls 2 [(0, .ref (q 0)), (1, .int c9)] := hl
  have hI0 := hI
  refine lv_aload_n hx hb dX0_baseOf_0 rfl (lv_at hl 0 rfl) ?_
  refine lv_iload_n hx hb dX0_baseOf_1 rfl (lv_at hl 1 rfl) ?_
  by_cases hc2 : (e_X0_checkCpu T C σ c9) = 0
  · skip
    refine cl_RV (k_X0_checkCpu l E q hq hT hC σ hI c9  hc2) gw_X0_76 hd_X0_checkCpu ⟨rfl, rfl⟩ S0 hK hP (rest := []) rfl hl.1 (Nat.le_of_ble_eq_true rfl) ⟨(Nat.le_of_ble_eq_true rfl), (Nat.le_of_ble_eq_true rfl)⟩ ⟨Nat.zero_le _, Nat.zero_le _⟩ dX0_baseOf_2 (fun _ => ?_)
    exact absurd (show (e_X0_baseOf T C σ c9) = 0 from (if_pos hc2)) he
  · skip
    exact cx_V hQ (t_X0_checkCpu l hst E q hq hT hC σ hI c9  hc2) gw_X0_76 hd_X0_checkCpu ⟨rfl, rfl⟩ S0 hK hP hX hta hlocks (rest := []) rfl hl.1 (Nat.le_of_ble_eq_true rfl) ⟨(Nat.le_of_ble_eq_true rfl), (Nat.le_of_ble_eq_true rfl)⟩ ⟨(Nat.le_of_ble_eq_true rfl), (Nat.le_of_ble_eq_true rfl)⟩ dX0_baseOf_2 (xnc (ck_X0_checkCpu hc2) (show (e_X0_baseOf T C σ c9) = 1 from (if_neg hc2)) rfl)
def f_X0_idleTicks (T C : Nat) (σ : St) (c9 : Int32) : Int32 := (σ.1 10 (ix c9))
def e_X0_idleTicks (T C : Nat) (σ : St) (c9 : Int32) : Int32 := (if (e_X0_checkCpu T C σ c9) = 0 then 0 else 1)
def rm_X0_idleTicks : Room := { frames := 2, cells := 0, slots := 0, locals := 41 }
set_option maxHeartbeats 400000 in
set_option maxRecDepth 100000 in
theorem k_X0_idleTicks (l : Launch) (E : Ev) (q : Nat → Nat) (hq : Dq q) {T C : Nat} (hT : T ≤ 16) (hC : 1 ≤ C ∧ C ≤ 4) (σ : St) (hI : Inv T C σ) (c9 : Int32) (he : (e_X0_idleTicks T C σ c9) = 0) : RI l 0 E q σ yX0_idleTicks cX0_idleTicks 2 (some .int) rm_X0_idleTicks [.int c9] (f_X0_idleTicks T C σ c9) True := by
  refine Met.ofB (by decide) (Nat.le_of_ble_eq_true rfl) (fun p e s m args below meth c ls Q B hQ hPK hl => ?_)
  obtain ⟨hx, hb, hml, hr, hlocks, hown, hts⟩ := B
  have S0 : Fx p m c cX0_idleTicks 2 s args RX0 := ⟨hx, hb, hml, hown, hts⟩
  obtain ⟨hP, hK⟩ := hPK
  have hl : lv_has ls 2 [(0, .ref (q 0)), (1, .int c9)] := hl
  have hI0 := hI
  refine lv_aload_n hx hb dX0_idleTicks_0 rfl (lv_at hl 0 rfl) ?_
  refine lv_iload_n hx hb dX0_idleTicks_1 rfl (lv_at hl 1 rfl) ?_
  by_cases hc2 : (e_X0_checkCpu T C σ c9) = 0
  · skip
    refine cl_RV (k_X0_checkCpu l E q hq hT hC σ hI c9  hc2) gw_X0_76 hd_X0_checkCpu ⟨rfl, rfl⟩ S0 hK hP (rest := []) rfl hl.1 (Nat.le_of_ble_eq_true rfl) ⟨(Nat.le_of_ble_eq_true rfl), (Nat.le_of_ble_eq_true rfl)⟩ ⟨Nat.zero_le _, Nat.zero_le _⟩ dX0_idleTicks_2 (fun _ => ?_)
    refine lv_aload_n hx hb dX0_idleTicks_5 rfl (lv_at hl 0 rfl) ?_
    refine gf_X0_42 hx hb hts hown hK hP dX0_idleTicks_6 ?_
    refine lv_iload_n hx hb dX0_idleTicks_9 rfl (lv_at hl 1 rfl) ?_
    refine ld_10 hx hb hK hP (inC0 hI0 hC hc2) dX0_idleTicks_10 ?_
    exact rt_RI hQ hx hb hr hlocks ⟨rfl, trivial⟩ dX0_idleTicks_11
  · skip
    exact absurd (Eq.trans (Eq.symm (show (e_X0_idleTicks T C σ c9) = 1 from (if_neg hc2))) he) (by decide)
def rt_X0_idleTicks : Room := { frames := 7, cells := 1, slots := 6, locals := 103 }
set_option maxHeartbeats 400000 in
set_option maxRecDepth 100000 in
theorem t_X0_idleTicks (l : Launch) (hst : l.stackTraces = false) (E : Ev) (q : Nat → Nat) (hq : Dq q) {T C : Nat} (hT : T ≤ 16) (hC : 1 ≤ C ∧ C ≤ 4) (σ : St) (hI : Inv T C σ) (c9 : Int32) (he : ¬ (e_X0_idleTicks T C σ c9) = 0) : TX l E q σ yX0_idleTicks cX0_idleTicks 2 (some .int) rt_X0_idleTicks [.int c9] xISE (e_X0_idleTicks T C σ c9) := by
  refine vx_ofB (by decide) (Nat.le_of_ble_eq_true rfl) (fun p e s m args below meth c ls Q B hta hQ hPK hl => ?_)
  obtain ⟨hx, hb, hml, hr, hlocks, hown, hts⟩ := B
  have S0 : Fx p m c cX0_idleTicks 2 s args RX0 := ⟨hx, hb, hml, hown, hts⟩
  obtain ⟨hP, hK, hX⟩ := hPK
  have hl : lv_has ls 2 [(0, .ref (q 0)), (1, .int c9)] := hl
  have hI0 := hI
  refine lv_aload_n hx hb dX0_idleTicks_0 rfl (lv_at hl 0 rfl) ?_
  refine lv_iload_n hx hb dX0_idleTicks_1 rfl (lv_at hl 1 rfl) ?_
  by_cases hc2 : (e_X0_checkCpu T C σ c9) = 0
  · skip
    refine cl_RV (k_X0_checkCpu l E q hq hT hC σ hI c9  hc2) gw_X0_76 hd_X0_checkCpu ⟨rfl, rfl⟩ S0 hK hP (rest := []) rfl hl.1 (Nat.le_of_ble_eq_true rfl) ⟨(Nat.le_of_ble_eq_true rfl), (Nat.le_of_ble_eq_true rfl)⟩ ⟨Nat.zero_le _, Nat.zero_le _⟩ dX0_idleTicks_2 (fun _ => ?_)
    exact absurd (show (e_X0_idleTicks T C σ c9) = 0 from (if_pos hc2)) he
  · skip
    exact cx_V hQ (t_X0_checkCpu l hst E q hq hT hC σ hI c9  hc2) gw_X0_76 hd_X0_checkCpu ⟨rfl, rfl⟩ S0 hK hP hX hta hlocks (rest := []) rfl hl.1 (Nat.le_of_ble_eq_true rfl) ⟨(Nat.le_of_ble_eq_true rfl), (Nat.le_of_ble_eq_true rfl)⟩ ⟨(Nat.le_of_ble_eq_true rfl), (Nat.le_of_ble_eq_true rfl)⟩ dX0_idleTicks_2 (xnc (ck_X0_checkCpu hc2) (show (e_X0_idleTicks T C σ c9) = 1 from (if_neg hc2)) rfl)
def f_X0_forcedIdleTicks (T C : Nat) (σ : St) (c9 : Int32) : Int32 := (σ.1 11 (ix c9))
def e_X0_forcedIdleTicks (T C : Nat) (σ : St) (c9 : Int32) : Int32 := (if (e_X0_checkCpu T C σ c9) = 0 then 0 else 1)
def rm_X0_forcedIdleTicks : Room := { frames := 2, cells := 0, slots := 0, locals := 41 }
set_option maxHeartbeats 400000 in
set_option maxRecDepth 100000 in
theorem k_X0_forcedIdleTicks (l : Launch) (E : Ev) (q : Nat → Nat) (hq : Dq q) {T C : Nat} (hT : T ≤ 16) (hC : 1 ≤ C ∧ C ≤ 4) (σ : St) (hI : Inv T C σ) (c9 : Int32) (he : (e_X0_forcedIdleTicks T C σ c9) = 0) : RI l 0 E q σ yX0_forcedIdleTicks cX0_forcedIdleTicks 2 (some .int) rm_X0_forcedIdleTicks [.int c9] (f_X0_forcedIdleTicks T C σ c9) True := by
  refine Met.ofB (by decide) (Nat.le_of_ble_eq_true rfl) (fun p e s m args below meth c ls Q B hQ hPK hl => ?_)
  obtain ⟨hx, hb, hml, hr, hlocks, hown, hts⟩ := B
  have S0 : Fx p m c cX0_forcedIdleTicks 2 s args RX0 := ⟨hx, hb, hml, hown, hts⟩
  obtain ⟨hP, hK⟩ := hPK
  have hl : lv_has ls 2 [(0, .ref (q 0)), (1, .int c9)] := hl
  have hI0 := hI
  refine lv_aload_n hx hb dX0_forcedIdleTicks_0 rfl (lv_at hl 0 rfl) ?_
  refine lv_iload_n hx hb dX0_forcedIdleTicks_1 rfl (lv_at hl 1 rfl) ?_
  by_cases hc2 : (e_X0_checkCpu T C σ c9) = 0
  · skip
    refine cl_RV (k_X0_checkCpu l E q hq hT hC σ hI c9  hc2) gw_X0_76 hd_X0_checkCpu ⟨rfl, rfl⟩ S0 hK hP (rest := []) rfl hl.1 (Nat.le_of_ble_eq_true rfl) ⟨(Nat.le_of_ble_eq_true rfl), (Nat.le_of_ble_eq_true rfl)⟩ ⟨Nat.zero_le _, Nat.zero_le _⟩ dX0_forcedIdleTicks_2 (fun _ => ?_)
    refine lv_aload_n hx hb dX0_forcedIdleTicks_5 rfl (lv_at hl 0 rfl) ?_
    refine gf_X0_45 hx hb hts hown hK hP dX0_forcedIdleTicks_6 ?_
    refine lv_iload_n hx hb dX0_forcedIdleTicks_9 rfl (lv_at hl 1 rfl) ?_
    refine ld_11 hx hb hK hP (inC0 hI0 hC hc2) dX0_forcedIdleTicks_10 ?_
    exact rt_RI hQ hx hb hr hlocks ⟨rfl, trivial⟩ dX0_forcedIdleTicks_11
  · skip
    exact absurd (Eq.trans (Eq.symm (show (e_X0_forcedIdleTicks T C σ c9) = 1 from (if_neg hc2))) he) (by decide)
def rt_X0_forcedIdleTicks : Room := { frames := 7, cells := 1, slots := 6, locals := 103 }
set_option maxHeartbeats 400000 in
set_option maxRecDepth 100000 in
theorem t_X0_forcedIdleTicks (l : Launch) (hst : l.stackTraces = false) (E : Ev) (q : Nat → Nat) (hq : Dq q) {T C : Nat} (hT : T ≤ 16) (hC : 1 ≤ C ∧ C ≤ 4) (σ : St) (hI : Inv T C σ) (c9 : Int32) (he : ¬ (e_X0_forcedIdleTicks T C σ c9) = 0) : TX l E q σ yX0_forcedIdleTicks cX0_forcedIdleTicks 2 (some .int) rt_X0_forcedIdleTicks [.int c9] xISE (e_X0_forcedIdleTicks T C σ c9) := by
  refine vx_ofB (by decide) (Nat.le_of_ble_eq_true rfl) (fun p e s m args below meth c ls Q B hta hQ hPK hl => ?_)
  obtain ⟨hx, hb, hml, hr, hlocks, hown, hts⟩ := B
  have S0 : Fx p m c cX0_forcedIdleTicks 2 s args RX0 := ⟨hx, hb, hml, hown, hts⟩
  obtain ⟨hP, hK, hX⟩ := hPK
  have hl : lv_has ls 2 [(0, .ref (q 0)), (1, .int c9)] := hl
  have hI0 := hI
  refine lv_aload_n hx hb dX0_forcedIdleTicks_0 rfl (lv_at hl 0 rfl) ?_
  refine lv_iload_n hx hb dX0_forcedIdleTicks_1 rfl (lv_at hl 1 rfl) ?_
  by_cases hc2 : (e_X0_checkCpu T C σ c9) = 0
  · skip
    refine cl_RV (k_X0_checkCpu l E q hq hT hC σ hI c9  hc2) gw_X0_76 hd_X0_checkCpu ⟨rfl, rfl⟩ S0 hK hP (rest := []) rfl hl.1 (Nat.le_of_ble_eq_true rfl) ⟨(Nat.le_of_ble_eq_true rfl), (Nat.le_of_ble_eq_true rfl)⟩ ⟨Nat.zero_le _, Nat.zero_le _⟩ dX0_forcedIdleTicks_2 (fun _ => ?_)
    exact absurd (show (e_X0_forcedIdleTicks T C σ c9) = 0 from (if_pos hc2)) he
  · skip
    exact cx_V hQ (t_X0_checkCpu l hst E q hq hT hC σ hI c9  hc2) gw_X0_76 hd_X0_checkCpu ⟨rfl, rfl⟩ S0 hK hP hX hta hlocks (rest := []) rfl hl.1 (Nat.le_of_ble_eq_true rfl) ⟨(Nat.le_of_ble_eq_true rfl), (Nat.le_of_ble_eq_true rfl)⟩ ⟨(Nat.le_of_ble_eq_true rfl), (Nat.le_of_ble_eq_true rfl)⟩ dX0_forcedIdleTicks_2 (xnc (ck_X0_checkCpu hc2) (show (e_X0_forcedIdleTicks T C σ c9) = 1 from (if_neg hc2)) rfl)
def P_X0_queuedTask_7 (T : Nat) (C : Nat) (σ : St) (c9 : Int32) (x9 : Int32) : Nat → Int32 := fun i_7 => (if (f_X0_isQueued T C σ (nI i_7) c9) = 0 then 0 else (if (f_X0_positionOf T C σ (nI i_7)) = x9 then 1 else 0))
def f_X0_queuedTask (T C : Nat) (σ : St) (c9 : Int32) (x9 : Int32) : Int32 := (fnd (P_X0_queuedTask_7 T C σ c9 x9) T 0 (-1))
def e_X0_queuedTask (T C : Nat) (σ : St) (c9 : Int32) (x9 : Int32) : Int32 := (if (e_X0_checkCpu T C σ c9) = 0 then (if (fnd (P_X0_queuedTask_7 T C σ c9 x9) T 0 (-1)) = (-1) then 2 else 0) else 1)
def rm_X0_queuedTask : Room := { frames := 3, cells := 0, slots := 0, locals := 70 }
set_option maxHeartbeats 400000 in
set_option maxRecDepth 100000 in
theorem k_X0_queuedTask (l : Launch) (E : Ev) (q : Nat → Nat) (hq : Dq q) {T C : Nat} (hT : T ≤ 16) (hC : 1 ≤ C ∧ C ≤ 4) (σ : St) (hI : Inv T C σ) (c9 : Int32) (x9 : Int32) (he : (e_X0_queuedTask T C σ c9 x9) = 0) : RI l 0 E q σ yX0_queuedTask cX0_queuedTask 4 (some .int) rm_X0_queuedTask [.int c9, .int x9] (f_X0_queuedTask T C σ c9 x9) True := by
  refine Met.ofB (by decide) (Nat.le_of_ble_eq_true rfl) (fun p e s m args below meth c ls Q B hQ hPK hl => ?_)
  obtain ⟨hx, hb, hml, hr, hlocks, hown, hts⟩ := B
  have S0 : Fx p m c cX0_queuedTask 4 s args RX0 := ⟨hx, hb, hml, hown, hts⟩
  obtain ⟨hP, hK⟩ := hPK
  have hl : lv_has ls 4 [(0, .ref (q 0)), (1, .int c9), (2, .int x9)] := hl
  have hI0 := hI
  refine lv_aload_n hx hb dX0_queuedTask_0 rfl (lv_at hl 0 rfl) ?_
  refine lv_iload_n hx hb dX0_queuedTask_1 rfl (lv_at hl 1 rfl) ?_
  by_cases hc2 : (e_X0_checkCpu T C σ c9) = 0
  · skip
    refine cl_RV (k_X0_checkCpu l E q hq hT hC σ hI c9  hc2) gw_X0_76 hd_X0_checkCpu ⟨rfl, rfl⟩ S0 hK hP (rest := []) rfl hl.1 (Nat.le_of_ble_eq_true rfl) ⟨(Nat.le_of_ble_eq_true rfl), (Nat.le_of_ble_eq_true rfl)⟩ ⟨Nat.zero_le _, Nat.zero_le _⟩ dX0_queuedTask_2 (fun _ => ?_)
    refine lv_iconst (v := 0) hx hb dX0_queuedTask_5 (by decide) ?_
    refine lv_istore_n (lv' := [(3, .int 0), (0, .ref (q 0)), (1, .int c9), (2, .int x9)]) hx hb dX0_queuedTask_6 rfl hl (by decide) rfl (fun ls hl => ?_)
    have L_7 : ∀ (n_7 i_7 : Nat) (ls : Array Slot), i_7 + n_7 = T → fnd (P_X0_queuedTask_7 T C σ c9 x9) n_7 i_7 (-1) = (fnd (P_X0_queuedTask_7 T C σ c9 x9) T 0 (-1)) → lv_has ls 4 [(3, .int (nI i_7)), (0, .ref (q 0)), (1, .int c9), (2, .int x9)] → W p l e rm_X0_queuedTask s m args below meth c s.heap [] 0 0 Q (F0 m 7 ls []) := by
      intro n_7
      induction n_7 with
      | zero =>
        intro i_7 ls hi_7 hres_7 hl
        refine lv_iload_n hx hb dX0_queuedTask_7 rfl (lv_at hl 0 rfl) ?_
        refine lv_aload_n hx hb dX0_queuedTask_8 rfl (lv_at hl 1 rfl) ?_
        refine gf_X0_85 hx hb hts hown hK hP dX0_queuedTask_9 ?_
        refine lv_icmp_ge (tgt := 41) hx hb dX0_queuedTask_12 (by decide) (fun _ => ?_) (fun h => absurd (lp_out hI.2.1 (by omega) hi_7) h)
        have hfe : (fnd (P_X0_queuedTask_7 T C σ c9 x9) T 0 (-1)) = (-1) := Eq.symm hres_7
        exact absurd (Eq.trans (Eq.symm (show (e_X0_queuedTask T C σ c9 x9) = 2 from (Eq.trans (if_pos hc2) (if_pos hfe)))) he) (by decide)
      | succ n_7 ih_7 =>
        intro i_7 ls hi_7 hres_7 hl
        refine lv_iload_n hx hb dX0_queuedTask_7 rfl (lv_at hl 0 rfl) ?_
        refine lv_aload_n hx hb dX0_queuedTask_8 rfl (lv_at hl 1 rfl) ?_
        refine gf_X0_85 hx hb hts hown hK hP dX0_queuedTask_9 ?_
        refine lv_icmp_ge (tgt := 41) hx hb dX0_queuedTask_12 (by decide) (fun h => absurd h (lp_in hI.2.1 (by omega) hi_7)) (fun _ => ?_)
        refine lv_aload_n hx hb dX0_queuedTask_15 rfl (lv_at hl 1 rfl) ?_
        refine lv_iload_n hx hb dX0_queuedTask_16 rfl (lv_at hl 0 rfl) ?_
        refine lv_iload_n hx hb dX0_queuedTask_17 rfl (lv_at hl 2 rfl) ?_
        refine cl_RI (k_X0_isQueued l E q hq hT hC σ hI (nI i_7) c9 (vp_in_nI (by omega) (by decide))) gw_X0_130 hd_X0_isQueued ⟨rfl, rfl⟩ S0 hK hP (rest := []) rfl hl.1 (Nat.le_of_ble_eq_true rfl) ⟨(Nat.le_of_ble_eq_true rfl), (Nat.le_of_ble_eq_true rfl)⟩ ⟨Nat.zero_le _, Nat.zero_le _⟩ dX0_queuedTask_18 (fun hex => ?_)
        refine lv_if_eq (tgt := 35) hx hb dX0_queuedTask_21 (by decide) (fun h21 => ?_) (fun h21 => ?_)
        · skip
          refine lv_iinc (v := (nI (i_7 + 1))) (lv' := [(3, .int (nI (i_7 + 1))), (0, .ref (q 0)), (1, .int c9), (2, .int x9)]) hx hb dX0_queuedTask_35 hl (k := 0) rfl (nI_1 _) (by decide) rfl (fun ls hl => ?_)
          refine lv_goto (tgt := 7) hx hb dX0_queuedTask_38 (by decide) ?_
          exact ih_7 (i_7 + 1) ls (by omega) (fnd_n (show (P_X0_queuedTask_7 T C σ c9 x9) i_7 = 0 from (if_pos h21)) hres_7) (lv_sub hl [0, 1, 2, 3] rfl)
        · skip
          refine lv_aload_n hx hb dX0_queuedTask_24 rfl (lv_at hl 1 rfl) ?_
          refine lv_iload_n hx hb dX0_queuedTask_25 rfl (lv_at hl 0 rfl) ?_
          refine cl_RI (k_X0_positionOf l E q hq hT hC σ hI (nI i_7) (vp_in_nI (by omega) (by decide))) gw_X0_134 hd_X0_positionOf ⟨rfl, rfl⟩ S0 hK hP (rest := []) rfl hl.1 (Nat.le_of_ble_eq_true rfl) ⟨(Nat.le_of_ble_eq_true rfl), (Nat.le_of_ble_eq_true rfl)⟩ ⟨Nat.zero_le _, Nat.zero_le _⟩ dX0_queuedTask_26 (fun hex => ?_)
          refine lv_iload_n hx hb dX0_queuedTask_29 rfl (lv_at hl 3 rfl) ?_
          refine lv_icmp_ne (tgt := 35) hx hb dX0_queuedTask_30 (by decide) (fun h30 => ?_) (fun h30 => ?_)
          · skip
            refine lv_iinc (v := (nI (i_7 + 1))) (lv' := [(3, .int (nI (i_7 + 1))), (0, .ref (q 0)), (1, .int c9), (2, .int x9)]) hx hb dX0_queuedTask_35 hl (k := 0) rfl (nI_1 _) (by decide) rfl (fun ls hl => ?_)
            refine lv_goto (tgt := 7) hx hb dX0_queuedTask_38 (by decide) ?_
            exact ih_7 (i_7 + 1) ls (by omega) (fnd_n (show (P_X0_queuedTask_7 T C σ c9 x9) i_7 = 0 from (Eq.trans (if_neg h21) (if_neg h30))) hres_7) (lv_sub hl [0, 1, 2, 3] rfl)
          · skip
            refine lv_iload_n hx hb dX0_queuedTask_33 rfl (lv_at hl 0 rfl) ?_
            have hfn : ¬ (fnd (P_X0_queuedTask_7 T C σ c9 x9) T 0 (-1)) = (-1) := fnd_ne (fnd_y (show (P_X0_queuedTask_7 T C σ c9 x9) i_7 = 1 from (Eq.trans (if_neg h21) (if_pos h30))) hres_7) (by omega)
            exact rt_RI hQ hx hb hr hlocks ⟨(Eq.trans (fnd_y (show (P_X0_queuedTask_7 T C σ c9 x9) i_7 = 1 from (Eq.trans (if_neg h21) (if_pos h30))) hres_7) rfl), trivial⟩ dX0_queuedTask_34
    exact L_7 T 0 ls (Nat.zero_add T) rfl (lv_sub hl [0, 1, 2, 3] rfl)
  · skip
    exact absurd (Eq.trans (Eq.symm (show (e_X0_queuedTask T C σ c9 x9) = 1 from (if_neg hc2))) he) (by decide)
def rt_X0_queuedTask : Room := { frames := 7, cells := 1, slots := 6, locals := 103 }
set_option maxHeartbeats 400000 in
set_option maxRecDepth 100000 in
theorem t_X0_queuedTask (l : Launch) (hst : l.stackTraces = false) (E : Ev) (q : Nat → Nat) (hq : Dq q) {T C : Nat} (hT : T ≤ 16) (hC : 1 ≤ C ∧ C ≤ 4) (σ : St) (hI : Inv T C σ) (c9 : Int32) (x9 : Int32) (he : ¬ (e_X0_queuedTask T C σ c9 x9) = 0) : TX l E q σ yX0_queuedTask cX0_queuedTask 4 (some .int) rt_X0_queuedTask [.int c9, .int x9] xIOO (e_X0_queuedTask T C σ c9 x9) := by
  refine vx_ofB (by decide) (Nat.le_of_ble_eq_true rfl) (fun p e s m args below meth c ls Q B hta hQ hPK hl => ?_)
  obtain ⟨hx, hb, hml, hr, hlocks, hown, hts⟩ := B
  have S0 : Fx p m c cX0_queuedTask 4 s args RX0 := ⟨hx, hb, hml, hown, hts⟩
  obtain ⟨hP, hK, hX⟩ := hPK
  have hl : lv_has ls 4 [(0, .ref (q 0)), (1, .int c9), (2, .int x9)] := hl
  have hI0 := hI
  refine lv_aload_n hx hb dX0_queuedTask_0 rfl (lv_at hl 0 rfl) ?_
  refine lv_iload_n hx hb dX0_queuedTask_1 rfl (lv_at hl 1 rfl) ?_
  by_cases hc2 : (e_X0_checkCpu T C σ c9) = 0
  · skip
    refine cl_RV (k_X0_checkCpu l E q hq hT hC σ hI c9  hc2) gw_X0_76 hd_X0_checkCpu ⟨rfl, rfl⟩ S0 hK hP (rest := []) rfl hl.1 (Nat.le_of_ble_eq_true rfl) ⟨(Nat.le_of_ble_eq_true rfl), (Nat.le_of_ble_eq_true rfl)⟩ ⟨Nat.zero_le _, Nat.zero_le _⟩ dX0_queuedTask_2 (fun _ => ?_)
    refine lv_iconst (v := 0) hx hb dX0_queuedTask_5 (by decide) ?_
    refine lv_istore_n (lv' := [(3, .int 0), (0, .ref (q 0)), (1, .int c9), (2, .int x9)]) hx hb dX0_queuedTask_6 rfl hl (by decide) rfl (fun ls hl => ?_)
    have L_7 : ∀ (n_7 i_7 : Nat) (ls : Array Slot), i_7 + n_7 = T → fnd (P_X0_queuedTask_7 T C σ c9 x9) n_7 i_7 (-1) = (fnd (P_X0_queuedTask_7 T C σ c9 x9) T 0 (-1)) → lv_has ls 4 [(3, .int (nI i_7)), (0, .ref (q 0)), (1, .int c9), (2, .int x9)] → W p l e rt_X0_queuedTask s m args below meth c s.heap [] 0 0 Q (F0 m 7 ls []) := by
      intro n_7
      induction n_7 with
      | zero =>
        intro i_7 ls hi_7 hres_7 hl
        refine lv_iload_n hx hb dX0_queuedTask_7 rfl (lv_at hl 0 rfl) ?_
        refine lv_aload_n hx hb dX0_queuedTask_8 rfl (lv_at hl 1 rfl) ?_
        refine gf_X0_85 hx hb hts hown hK hP dX0_queuedTask_9 ?_
        refine lv_icmp_ge (tgt := 41) hx hb dX0_queuedTask_12 (by decide) (fun _ => ?_) (fun h => absurd (lp_out hI.2.1 (by omega) hi_7) h)
        have hfe : (fnd (P_X0_queuedTask_7 T C σ c9 x9) T 0 (-1)) = (-1) := Eq.symm hres_7
        exact tx_new (cls := xIOO) (text := "there is no such position") (ik := 137) (is := 139) (ic := 141) hQ hx hb hst hown hts hX hta hlocks (by decide) cl_X0_137 ini_IndexOutOfBoundsException (by decide) at_IOO ng_IOO ot_IOO (hl.1.trans hml.symm) dX0_queuedTask_41 dX0_queuedTask_44 dX0_queuedTask_45 dX0_queuedTask_47 dX0_queuedTask_50 (Nat.le_of_ble_eq_true rfl) (Nat.le_of_ble_eq_true rfl) ⟨(Nat.le_of_ble_eq_true rfl), (Nat.le_of_ble_eq_true rfl)⟩ (xn2 (show (e_X0_queuedTask T C σ c9 x9) = 2 from (Eq.trans (if_pos hc2) (if_pos hfe))))
      | succ n_7 ih_7 =>
        intro i_7 ls hi_7 hres_7 hl
        refine lv_iload_n hx hb dX0_queuedTask_7 rfl (lv_at hl 0 rfl) ?_
        refine lv_aload_n hx hb dX0_queuedTask_8 rfl (lv_at hl 1 rfl) ?_
        refine gf_X0_85 hx hb hts hown hK hP dX0_queuedTask_9 ?_
        refine lv_icmp_ge (tgt := 41) hx hb dX0_queuedTask_12 (by decide) (fun h => absurd h (lp_in hI.2.1 (by omega) hi_7)) (fun _ => ?_)
        refine lv_aload_n hx hb dX0_queuedTask_15 rfl (lv_at hl 1 rfl) ?_
        refine lv_iload_n hx hb dX0_queuedTask_16 rfl (lv_at hl 0 rfl) ?_
        refine lv_iload_n hx hb dX0_queuedTask_17 rfl (lv_at hl 2 rfl) ?_
        refine cl_RI (k_X0_isQueued l E q hq hT hC σ hI (nI i_7) c9 (vp_in_nI (by omega) (by decide))) gw_X0_130 hd_X0_isQueued ⟨rfl, rfl⟩ S0 hK hP (rest := []) rfl hl.1 (Nat.le_of_ble_eq_true rfl) ⟨(Nat.le_of_ble_eq_true rfl), (Nat.le_of_ble_eq_true rfl)⟩ ⟨Nat.zero_le _, Nat.zero_le _⟩ dX0_queuedTask_18 (fun hex => ?_)
        refine lv_if_eq (tgt := 35) hx hb dX0_queuedTask_21 (by decide) (fun h21 => ?_) (fun h21 => ?_)
        · skip
          refine lv_iinc (v := (nI (i_7 + 1))) (lv' := [(3, .int (nI (i_7 + 1))), (0, .ref (q 0)), (1, .int c9), (2, .int x9)]) hx hb dX0_queuedTask_35 hl (k := 0) rfl (nI_1 _) (by decide) rfl (fun ls hl => ?_)
          refine lv_goto (tgt := 7) hx hb dX0_queuedTask_38 (by decide) ?_
          exact ih_7 (i_7 + 1) ls (by omega) (fnd_n (show (P_X0_queuedTask_7 T C σ c9 x9) i_7 = 0 from (if_pos h21)) hres_7) (lv_sub hl [0, 1, 2, 3] rfl)
        · skip
          refine lv_aload_n hx hb dX0_queuedTask_24 rfl (lv_at hl 1 rfl) ?_
          refine lv_iload_n hx hb dX0_queuedTask_25 rfl (lv_at hl 0 rfl) ?_
          refine cl_RI (k_X0_positionOf l E q hq hT hC σ hI (nI i_7) (vp_in_nI (by omega) (by decide))) gw_X0_134 hd_X0_positionOf ⟨rfl, rfl⟩ S0 hK hP (rest := []) rfl hl.1 (Nat.le_of_ble_eq_true rfl) ⟨(Nat.le_of_ble_eq_true rfl), (Nat.le_of_ble_eq_true rfl)⟩ ⟨Nat.zero_le _, Nat.zero_le _⟩ dX0_queuedTask_26 (fun hex => ?_)
          refine lv_iload_n hx hb dX0_queuedTask_29 rfl (lv_at hl 3 rfl) ?_
          refine lv_icmp_ne (tgt := 35) hx hb dX0_queuedTask_30 (by decide) (fun h30 => ?_) (fun h30 => ?_)
          · skip
            refine lv_iinc (v := (nI (i_7 + 1))) (lv' := [(3, .int (nI (i_7 + 1))), (0, .ref (q 0)), (1, .int c9), (2, .int x9)]) hx hb dX0_queuedTask_35 hl (k := 0) rfl (nI_1 _) (by decide) rfl (fun ls hl => ?_)
            refine lv_goto (tgt := 7) hx hb dX0_queuedTask_38 (by decide) ?_
            exact ih_7 (i_7 + 1) ls (by omega) (fnd_n (show (P_X0_queuedTask_7 T C σ c9 x9) i_7 = 0 from (Eq.trans (if_neg h21) (if_neg h30))) hres_7) (lv_sub hl [0, 1, 2, 3] rfl)
          · skip
            refine lv_iload_n hx hb dX0_queuedTask_33 rfl (lv_at hl 0 rfl) ?_
            have hfn : ¬ (fnd (P_X0_queuedTask_7 T C σ c9 x9) T 0 (-1)) = (-1) := fnd_ne (fnd_y (show (P_X0_queuedTask_7 T C σ c9 x9) i_7 = 1 from (Eq.trans (if_neg h21) (if_pos h30))) hres_7) (by omega)
            exact absurd (show (e_X0_queuedTask T C σ c9 x9) = 0 from (Eq.trans (if_pos hc2) (if_neg hfn))) he
    exact L_7 T 0 ls (Nat.zero_add T) rfl (lv_sub hl [0, 1, 2, 3] rfl)
  · skip
    exact cx_V hQ (t_X0_checkCpu l hst E q hq hT hC σ hI c9  hc2) gw_X0_76 hd_X0_checkCpu ⟨rfl, rfl⟩ S0 hK hP hX hta hlocks (rest := []) rfl hl.1 (Nat.le_of_ble_eq_true rfl) ⟨(Nat.le_of_ble_eq_true rfl), (Nat.le_of_ble_eq_true rfl)⟩ ⟨(Nat.le_of_ble_eq_true rfl), (Nat.le_of_ble_eq_true rfl)⟩ dX0_queuedTask_2 (xnc (ck_X0_checkCpu hc2) (show (e_X0_queuedTask T C σ c9 x9) = 1 from (if_neg hc2)) rfl)
