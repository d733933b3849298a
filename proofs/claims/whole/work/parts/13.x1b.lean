theorem or0 {x y : Int32} (h : (if x = 0 then y else 1) = 0) : x = 0 ∧ y = 0 := by
  by_cases h1 : x = 0
  · rw [if_pos h1] at h; exact ⟨h1, h⟩
  · rw [if_neg h1] at h; exact absurd h (by decide)
theorem newT {T C : Nat} {σ : St} (hI : Inv T C σ) (hT : T ≤ 16) (h : (if (σ.2.2 14) = 16 then (1 : Int32) else 0) = 0) : vp_in (σ.2.2 14) 16 := by
  by_cases h1 : σ.2.2 14 = 16
  · rw [if_pos h1] at h; exact absurd h (by decide)
  · rw [hI.2.1] at h1 ⊢
    have h2 : T ≠ 16 := fun e => h1 (by rw [e]; rfl)
    exact vp_in_nI (by omega) (by decide)
theorem tkN {T C : Nat} {σ : St} {t b : Int32} (h : f_X1_isRefused T C σ (if (f_X1_in (Int32.toInt64 t) 1 100) = 0 then 1 else 0) b = 0) : t = nI (ix t) ∧ ix t ≤ 100 := by
  have h1 := (ref0 h).1
  rw [in_eq] at h1
  have a1 : (Int32.toInt64 t < 1) ↔ t < 1 := i64_ltd t 1 (by decide)
  have a2 : (100 < Int32.toInt64 t) ↔ 100 < t := i64_ltc t 100 (by decide)
  simp only [a1, a2] at h1
  by_cases c1 : t < 1
  · rw [if_pos c1] at h1; exact absurd h1 (by decide)
  · rw [if_neg c1] at h1
    by_cases c2 : 100 < t
    · rw [if_pos c2] at h1; exact absurd h1 (by decide)
    · have c3 : t ≤ 100 := Int32.not_lt.mp c2
      have c4 : ¬ t < 0 := by
        intro q
        apply c1
        rw [Int32.lt_iff_toInt_lt] at q ⊢
        have z0 : (0 : Int32).toInt = 0 := rfl
        have z1 : (1 : Int32).toInt = 1 := rfl
        omega
      obtain ⟨j, hj, rfl⟩ := nI_of2 (M := 100) (n := 100) rfl c4 c3
      have e : ix (nI j) = j := nI_clamp (by omega)
      rw [e]
      exact ⟨rfl, hj⟩
/-- the first number from i on, of n, of which P holds
-/
def fnd (P : Nat → Int32) : Nat → Nat → Int32 → Int32
  | 0, _, d => d
  | n + 1, i, d => if P i = 1 then nI i else fnd P n (i + 1) d
theorem fnd_y {P : Nat → Int32} {n i : Nat} {d r : Int32} (h : P i = 1) (hr : fnd P (n + 1) i d = r) : nI i = r := by
  rw [← hr]; exact (if_pos h).symm
theorem fnd_n {P : Nat → Int32} {n i : Nat} {d r : Int32} (h : P i = 0) (hr : fnd P (n + 1) i d = r) : fnd P n (i + 1) d = r := by
  rw [← hr]; exact (if_neg (by rw [h]; decide)).symm
def f_X1_hasExited (T C : Nat) (σ : St) (t : Int32) : Int32 := (if (f_X1_noTask T C σ t) = 0 then (if (σ.1 3 (ix t)) = 3 then 1 else 0) else 0)
def rm_X1_hasExited : Room := { frames := 2, cells := 0, slots := 0, locals := 46 }
set_option maxHeartbeats 1600000 in
set_option maxRecDepth 100000 in
theorem k_X1_hasExited (l : Launch) (E : Ev) (q : Nat → Nat) (hq : Dq q) {T C : Nat} (hT : T ≤ 16) (hC : 1 ≤ C ∧ C ≤ 4) (σ : St) (hI : Inv T C σ) (t : Int32) : RI l 1 E q σ yX1_hasExited cX1_hasExited 2 (some .boolean) rm_X1_hasExited [.int t] (f_X1_hasExited T C σ t) True := by
  refine Met.ofB (by decide) (Nat.le_of_ble_eq_true rfl) (fun p e s m args below meth c ls Q B hQ hPK hl => ?_)
  obtain ⟨hx, hb, hml, hr, hlocks, hown, hts⟩ := B
  have S0 : Fx p m c cX1_hasExited 2 s args RX1 := ⟨hx, hb, hml, hown, hts⟩
  obtain ⟨hP, hK⟩ := hPK
  have hl : lv_has ls 2 [(0, .ref (q 0)), (1, .int t)] := hl
  have hI0 := hI
  refine lv_aload_n hx hb dX1_hasExited_0 rfl (lv_at hl 0 rfl) ?_
  refine lv_iload_n hx hb dX1_hasExited_1 rfl (lv_at hl 1 rfl) ?_
  refine cl_RI (k_X1_noTask l E q hq hT hC σ hI t ) gw_X1_134 hd_X1_noTask ⟨rfl, rfl⟩ S0 hK hP (rest := []) rfl hl.1 (Nat.le_of_ble_eq_true rfl) ⟨(Nat.le_of_ble_eq_true rfl), (Nat.le_of_ble_eq_true rfl)⟩ ⟨Nat.zero_le _, Nat.zero_le _⟩ dX1_hasExited_2 (fun hex => ?_)
  refine cutG (fun ls H locs st => ∃ y0 : Int32, y0 = (if (f_X1_noTask T C σ t) = 0 then (if (σ.1 3 (ix t)) = 3 then 1 else 0) else 0) ∧ st = [.int y0] ∧ lv_has ls 2 [(0, .ref (q 0)), (1, .int t)] ∧ H = s.heap ∧ locs = []) 23 (fun ls H locs st hKp => ?_) (fun K5 => ?_)
  · revert hKp
    refine ex_eq (fun hKp => ?_)
    obtain ⟨rfl, hl, rfl, rfl⟩ := hKp
    exact rt_RZ hQ hx hb hr hlocks (nb_ite (nb_ite nb_1 nb_0) nb_0) ⟨rfl, trivial⟩ dX1_hasExited_23
  · refine lv_if_ne (tgt := 22) hx hb dX1_hasExited_5 (by decide) (fun h5 => ?_) (fun h5 => ?_)
    · skip
      refine lv_iconst (v := 0) hx hb dX1_hasExited_22 (by decide) ?_
      exact K5 _ _ _ _ ⟨0, (Eq.symm (if_neg h5)), rfl, lv_sub hl [0, 1] rfl, rfl, rfl⟩
    · skip
      refine lv_aload_n hx hb dX1_hasExited_8 rfl (lv_at hl 0 rfl) ?_
      refine gf_X1_43 hx hb hts hown hK hP dX1_hasExited_9 ?_
      refine lv_iload_n hx hb dX1_hasExited_12 rfl (lv_at hl 1 rfl) ?_
      refine ld_3 hx hb hK hP (inT hI0 hT h5) dX1_hasExited_13 ?_
      refine lv_iconst (v := 3) hx hb dX1_hasExited_14 (by decide) ?_
      refine lv_icmp_ne (tgt := 22) hx hb dX1_hasExited_15 (by decide) (fun h15 => ?_) (fun h15 => ?_)
      · skip
        refine lv_iconst (v := 0) hx hb dX1_hasExited_22 (by decide) ?_
        exact K5 _ _ _ _ ⟨0, (Eq.symm (Eq.trans (if_pos h5) (if_neg h15))), rfl, lv_sub hl [0, 1] rfl, rfl, rfl⟩
      · skip
        refine lv_iconst (v := 1) hx hb dX1_hasExited_18 (by decide) ?_
        refine lv_goto (tgt := 23) hx hb dX1_hasExited_19 (by decide) ?_
        exact K5 _ _ _ _ ⟨1, (Eq.symm (Eq.trans (if_pos h5) (if_pos h15))), rfl, lv_sub hl [0, 1] rfl, rfl, rfl⟩
def f_X1_reset (T C : Nat) (σ : St) (n9 : Int32) : Int32 := (if (f_X1_isRefused T C σ (if (f_X1_in (Int32.toInt64 n9) 1 4) = 0 then 1 else 0) 0) = 0 then ((g_X1_isRefused T C σ (if (f_X1_in (Int32.toInt64 n9) 1 4) = 0 then 1 else 0) 0).2.2 13) else 0)
def g_X1_reset (T C : Nat) (σ : St) (n9 : Int32) : St := (if (f_X1_isRefused T C σ (if (f_X1_in (Int32.toInt64 n9) 1 4) = 0 then 1 else 0) 0) = 0 then (g_X1_begins T C (g_X1_isRefused T C σ (if (f_X1_in (Int32.toInt64 n9) 1 4) = 0 then 1 else 0) 0) n9) else (g_X1_isRefused T C σ (if (f_X1_in (Int32.toInt64 n9) 1 4) = 0 then 1 else 0) 0))
def rm_X1_reset : Room := { frames := 1, cells := 0, slots := 0, locals := 25 }
set_option maxHeartbeats 1600000 in
set_option maxRecDepth 100000 in
theorem k_X1_reset (l : Launch) (E : Ev) (q : Nat → Nat) (hq : Dq q) {T C : Nat} (hT : T ≤ 16) (hC : 1 ≤ C ∧ C ≤ 4) (σ : St) (hI : Inv T C σ) (n9 : Int32) : WI l 1 E q σ yX1_reset cX1_reset 3 (some .int) rm_X1_reset [.int n9] (f_X1_reset T C σ n9) (g_X1_reset T C σ n9) True := by
  refine Met.ofB (by decide) (Nat.le_of_ble_eq_true rfl) (fun p e s m args below meth c ls Q B hQ hPK hl => ?_)
  obtain ⟨hx, hb, hml, hr, hlocks, hown, hts⟩ := B
  have S0 : Fx p m c cX1_reset 3 s args RX1 := ⟨hx, hb, hml, hown, hts⟩
  obtain ⟨hP, hK⟩ := hPK
  suffices KH : ∀ (H : Heap) (locs : List Loc), PP 1 E q σ H → va_S (Aq q) s.heap H locs → W p l e rm_X1_reset s m args below meth c H locs 0 0 Q (F0 m 0 ls []) from KH s.heap [] hP va_S.rf
  intro H locs hP hS
  have hl : lv_has ls 3 [(0, .ref (q 0)), (1, .int n9)] := hl
  have hI0 := hI
  refine lv_aload_n hx hb dX1_reset_0 rfl (lv_at hl 0 rfl) ?_
  refine lv_iload_n hx hb dX1_reset_1 rfl (lv_at hl 1 rfl) ?_
  refine lv_i2l (v := Int32.toInt64 n9) hx hb dX1_reset_2 rfl ?_
  refine lv_lconst (v := 1) hx hb dX1_reset_3 (by decide) ?_
  refine lv_ldc2 hx hb hown (hts _ kl_X1_76) dX1_reset_4 ?_
  refine cl_NI (k_X1_in l (Int32.toInt64 n9) 1 4) gw_X1_72 hd_X1_in ⟨rfl, rfl⟩ S0 (rest := [.ref (q 0)]) rfl hl.1 (Nat.le_of_ble_eq_true rfl) ⟨(Nat.le_of_ble_eq_true rfl), (Nat.le_of_ble_eq_true rfl)⟩ ⟨Nat.zero_le _, Nat.zero_le _⟩ dX1_reset_7 ?_
  refine cutG (fun ls H locs st => ∃ y0 : Int32, y0 = (if (f_X1_in (Int32.toInt64 n9) 1 4) = 0 then 1 else 0) ∧ st = [.int y0, .ref (q 0)] ∧ lv_has ls 3 [(0, .ref (q 0)), (1, .int n9)] ∧ PP 1 E q σ H ∧ va_S (Aq q) s.heap H locs ∧ Inv T C σ) 18 (fun ls H locs st hKp => ?_) (fun K10 => ?_)
  · revert hKp
    refine ex_eq (fun hKp => ?_)
    obtain ⟨rfl, hl, hP, hS, hI⟩ := hKp
    refine lv_iconst (v := 0) hx hb dX1_reset_18 (by decide) ?_
    refine cl_WI (k_X1_isRefused l E q hq hT hC σ hI (if (f_X1_in (Int32.toInt64 n9) 1 4) = 0 then 1 else 0) 0 ) gw_X1_78 hd_X1_isRefused ⟨rfl, rfl⟩ S0 hK hP hS (rest := []) rfl hl.1 (Nat.le_of_ble_eq_true rfl) ⟨(Nat.le_of_ble_eq_true rfl), (Nat.le_of_ble_eq_true rfl)⟩ ⟨Nat.zero_le _, Nat.zero_le _⟩ dX1_reset_19 (fun H locs hP hS hex => ?_)
    obtain ⟨hI, -⟩ := hex
    refine lv_if_eq (tgt := 27) hx hb dX1_reset_22 (by decide) (fun h22 => ?_) (fun h22 => ?_)
    · skip
      refine lv_aload_n hx hb dX1_reset_27 rfl (lv_at hl 0 rfl) ?_
      refine gf_X1_7 hx hb hts hown hK hP dX1_reset_28 ?_
      refine lv_istore_n (lv' := [(2, .int ((g_X1_isRefused T C σ (if (f_X1_in (Int32.toInt64 n9) 1 4) = 0 then 1 else 0) 0).2.2 13)), (0, .ref (q 0)), (1, .int n9)]) hx hb dX1_reset_31 rfl hl (by decide) rfl (fun ls hl => ?_)
      refine lv_aload_n hx hb dX1_reset_32 rfl (lv_at hl 1 rfl) ?_
      refine lv_iload_n hx hb dX1_reset_33 rfl (lv_at hl 2 rfl) ?_
      refine cl_WV (k_X1_begins l E q hq hT hC (g_X1_isRefused T C σ (if (f_X1_in (Int32.toInt64 n9) 1 4) = 0 then 1 else 0) 0) n9 ) gw_X1_55 hd_X1_begins ⟨rfl, rfl⟩ S0 hK hP hS (rest := []) rfl hl.1 (Nat.le_of_ble_eq_true rfl) ⟨(Nat.le_of_ble_eq_true rfl), (Nat.le_of_ble_eq_true rfl)⟩ ⟨Nat.zero_le _, Nat.zero_le _⟩ dX1_reset_34 (fun H locs hP hS hex => ?_)
      refine lv_iload_n hx hb dX1_reset_37 rfl (lv_at hl 0 rfl) ?_
      exact rt_WI hQ hx hb hr hlocks (Eq.subst (motive := fun z => PP 1 E q z H) (show (g_X1_begins T C (g_X1_isRefused T C σ (if (f_X1_in (Int32.toInt64 n9) 1 4) = 0 then 1 else 0) 0) n9) = (g_X1_reset T C σ n9) from (Eq.symm (if_pos h22))) hP) hS ⟨(Eq.symm (if_pos h22)), trivial⟩ dX1_reset_38
    · skip
      refine lv_iconst (v := 0) hx hb dX1_reset_25 (by decide) ?_
      exact rt_WI hQ hx hb hr hlocks (Eq.subst (motive := fun z => PP 1 E q z H) (show (g_X1_isRefused T C σ (if (f_X1_in (Int32.toInt64 n9) 1 4) = 0 then 1 else 0) 0) = (g_X1_reset T C σ n9) from (Eq.symm (if_neg h22))) hP) hS ⟨(Eq.symm (if_neg h22)), trivial⟩ dX1_reset_26
  · refine lv_if_ne (tgt := 17) hx hb dX1_reset_10 (by decide) (fun h10 => ?_) (fun h10 => ?_)
    · skip
      refine lv_iconst (v := 0) hx hb dX1_reset_17 (by decide) ?_
      exact K10 _ _ _ _ ⟨0, (Eq.symm (if_neg h10)), rfl, lv_sub hl [0, 1] rfl, hP, hS, hI⟩
    · skip
      refine lv_iconst (v := 1) hx hb dX1_reset_13 (by decide) ?_
      refine lv_goto (tgt := 18) hx hb dX1_reset_14 (by decide) ?_
      exact K10 _ _ _ _ ⟨1, (Eq.symm (if_pos h10)), rfl, lv_sub hl [0, 1] rfl, hP, hS, hI⟩
def F_X1_tick_31 (T : Nat) (C : Nat) : Nat → (Int32 × St) → (Int32 × St) := fun i_31 z => (((z.1) + (f_X1_tickOne T C (z.2))), (g_X1_tickOne T C (z.2)))
def f_X1_tick (T C : Nat) (σ : St) (t9 : Int32) : Int32 := (if (f_X1_isRefused T C σ (if (f_X1_in (Int32.toInt64 t9) 1 100) = 0 then 1 else 0) 0) = 0 then ((lp (F_X1_tick_31 T C) (ix t9) 0 (0, (g_X1_isRefused T C σ (if (f_X1_in (Int32.toInt64 t9) 1 100) = 0 then 1 else 0) 0))).1) else 0)
def g_X1_tick (T C : Nat) (σ : St) (t9 : Int32) : St := (if (f_X1_isRefused T C σ (if (f_X1_in (Int32.toInt64 t9) 1 100) = 0 then 1 else 0) 0) = 0 then ((lp (F_X1_tick_31 T C) (ix t9) 0 (0, (g_X1_isRefused T C σ (if (f_X1_in (Int32.toInt64 t9) 1 100) = 0 then 1 else 0) 0))).2) else (g_X1_isRefused T C σ (if (f_X1_in (Int32.toInt64 t9) 1 100) = 0 then 1 else 0) 0))
def rm_X1_tick : Room := { frames := 5, cells := 0, slots := 0, locals := 119 }
set_option maxHeartbeats 1600000 in
set_option maxRecDepth 100000 in
theorem k_X1_tick (l : Launch) (E : Ev) (q : Nat → Nat) (hq : Dq q) {T C : Nat} (hT : T ≤ 16) (hC : 1 ≤ C ∧ C ≤ 4) (σ : St) (hI : Inv T C σ) (t9 : Int32) : WI l 1 E q σ yX1_tick cX1_tick 4 (some .int) rm_X1_tick [.int t9] (f_X1_tick T C σ t9) (g_X1_tick T C σ t9) (Inv T C (g_X1_tick T C σ t9) ∧ True) := by
  refine Met.ofB (by decide) (Nat.le_of_ble_eq_true rfl) (fun p e s m args below meth c ls Q B hQ hPK hl => ?_)
  obtain ⟨hx, hb, hml, hr, hlocks, hown, hts⟩ := B
  have S0 : Fx p m c cX1_tick 4 s args RX1 := ⟨hx, hb, hml, hown, hts⟩
  obtain ⟨hP, hK⟩ := hPK
  suffices KH : ∀ (H : Heap) (locs : List Loc), PP 1 E q σ H → va_S (Aq q) s.heap H locs → W p l e rm_X1_tick s m args below meth c H locs 0 0 Q (F0 m 0 ls []) from KH s.heap [] hP va_S.rf
  intro H locs hP hS
  have hl : lv_has ls 4 [(0, .ref (q 0)), (1, .int t9)] := hl
  have hI0 := hI
  refine lv_aload_n hx hb dX1_tick_0 rfl (lv_at hl 0 rfl) ?_
  refine lv_iload_n hx hb dX1_tick_1 rfl (lv_at hl 1 rfl) ?_
  refine lv_i2l (v := Int32.toInt64 t9) hx hb dX1_tick_2 rfl ?_
  refine lv_lconst (v := 1) hx hb dX1_tick_3 (by decide) ?_
  refine lv_ldc2 hx hb hown (hts _ kl_X1_115) dX1_tick_4 ?_
  refine cl_NI (k_X1_in l (Int32.toInt64 t9) 1 100) gw_X1_72 hd_X1_in ⟨rfl, rfl⟩ S0 (rest := [.ref (q 0)]) rfl hl.1 (Nat.le_of_ble_eq_true rfl) ⟨(Nat.le_of_ble_eq_true rfl), (Nat.le_of_ble_eq_true rfl)⟩ ⟨Nat.zero_le _, Nat.zero_le _⟩ dX1_tick_7 ?_
  refine cutG (fun ls H locs st => ∃ y0 : Int32, y0 = (if (f_X1_in (Int32.toInt64 t9) 1 100) = 0 then 1 else 0) ∧ st = [.int y0, .ref (q 0)] ∧ lv_has ls 4 [(0, .ref (q 0)), (1, .int t9)] ∧ PP 1 E q σ H ∧ va_S (Aq q) s.heap H locs ∧ Inv T C σ) 18 (fun ls H locs st hKp => ?_) (fun K10 => ?_)
  · revert hKp
    refine ex_eq (fun hKp => ?_)
    obtain ⟨rfl, hl, hP, hS, hI⟩ := hKp
    refine lv_iconst (v := 0) hx hb dX1_tick_18 (by decide) ?_
    refine cl_WI (k_X1_isRefused l E q hq hT hC σ hI (if (f_X1_in (Int32.toInt64 t9) 1 100) = 0 then 1 else 0) 0 ) gw_X1_78 hd_X1_isRefused ⟨rfl, rfl⟩ S0 hK hP hS (rest := []) rfl hl.1 (Nat.le_of_ble_eq_true rfl) ⟨(Nat.le_of_ble_eq_true rfl), (Nat.le_of_ble_eq_true rfl)⟩ ⟨Nat.zero_le _, Nat.zero_le _⟩ dX1_tick_19 (fun H locs hP hS hex => ?_)
    obtain ⟨hI, -⟩ := hex
    refine lv_if_eq (tgt := 27) hx hb dX1_tick_22 (by decide) (fun h22 => ?_) (fun h22 => ?_)
    · skip
      refine lv_iconst (v := 0) hx hb dX1_tick_27 (by decide) ?_
      refine lv_istore_n (lv' := [(2, .int 0), (0, .ref (q 0)), (1, .int t9)]) hx hb dX1_tick_28 rfl hl (by decide) rfl (fun ls hl => ?_)
      refine lv_iconst (v := 0) hx hb dX1_tick_29 (by decide) ?_
      refine lv_istore_n (lv' := [(3, .int 0), (2, .int 0), (0, .ref (q 0)), (1, .int t9)]) hx hb dX1_tick_30 rfl hl (by decide) rfl (fun ls hl => ?_)
      have htk := tkN h22
      have L_31 : ∀ (n_31 i_31 : Nat) (a2_31 : Int32) (τ_31 : St) (ls : Array Slot) (H : Heap) (locs : List Loc), i_31 + n_31 = (ix t9) → lp (F_X1_tick_31 T C) n_31 i_31 (a2_31, τ_31) = (lp (F_X1_tick_31 T C) (ix t9) 0 (0, (g_X1_isRefused T C σ (if (f_X1_in (Int32.toInt64 t9) 1 100) = 0 then 1 else 0) 0))) → Inv T C τ_31 → lv_has ls 4 [(3, .int (nI i_31)), (2, .int a2_31), (0, .ref (q 0)), (1, .int t9)] → PP 1 E q τ_31 H → va_S (Aq q) s.heap H locs → W p l e rm_X1_tick s m args below meth c H locs 0 0 Q (F0 m 31 ls []) := by
        intro n_31
        induction n_31 with
        | zero =>
          intro i_31 a2_31 τ_31 ls H locs hi_31 hres_31 hI hl hP hS
          have hres : (a2_31, τ_31) = (lp (F_X1_tick_31 T C) (ix t9) 0 (0, (g_X1_isRefused T C σ (if (f_X1_in (Int32.toInt64 t9) 1 100) = 0 then 1 else 0) 0))) := hres_31
          have hr0 : a2_31 = ((lp (F_X1_tick_31 T C) (ix t9) 0 (0, (g_X1_isRefused T C σ (if (f_X1_in (Int32.toInt64 t9) 1 100) = 0 then 1 else 0) 0))).1) := (congrArg Prod.fst hres)
          have hr1 : τ_31 = ((lp (F_X1_tick_31 T C) (ix t9) 0 (0, (g_X1_isRefused T C σ (if (f_X1_in (Int32.toInt64 t9) 1 100) = 0 then 1 else 0) 0))).2) := (congrArg Prod.snd hres)
          clear hres hres_31
          subst hr0
          subst hr1
          refine lv_iload_n hx hb dX1_tick_31 rfl (lv_at hl 0 rfl) ?_
          refine lv_iload_n hx hb dX1_tick_32 rfl (lv_at hl 3 rfl) ?_
          refine lv_icmp_ge (tgt := 49) hx hb dX1_tick_33 (by decide) (fun _ => ?_) (fun h => absurd (lp_out htk.1 (by omega) hi_31) h)
          have hl := lv_sub (l' := [(2, .int ((lp (F_X1_tick_31 T C) (ix t9) 0 (0, (g_X1_isRefused T C σ (if (f_X1_in (Int32.toInt64 t9) 1 100) = 0 then 1 else 0) 0))).1)), (0, .ref (q 0)), (1, .int t9)]) hl [1, 2, 3] rfl
          refine lv_iload_n hx hb dX1_tick_49 rfl (lv_at hl 0 rfl) ?_
          exact rt_WI hQ hx hb hr hlocks (Eq.subst (motive := fun z => PP 1 E q z H) (show ((lp (F_X1_tick_31 T C) (ix t9) 0 (0, (g_X1_isRefused T C σ (if (f_X1_in (Int32.toInt64 t9) 1 100) = 0 then 1 else 0) 0))).2) = (g_X1_tick T C σ t9) from (Eq.symm (if_pos h22))) hP) hS ⟨(Eq.symm (if_pos h22)), ⟨Eq.subst (motive := fun z => Inv T C z) (show ((lp (F_X1_tick_31 T C) (ix t9) 0 (0, (g_X1_isRefused T C σ (if (f_X1_in (Int32.toInt64 t9) 1 100) = 0 then 1 else 0) 0))).2) = (g_X1_tick T C σ t9) from (Eq.symm (if_pos h22))) hI, trivial⟩⟩ dX1_tick_50
        | succ n_31 ih_31 =>
          intro i_31 a2_31 τ_31 ls H locs hi_31 hres_31 hI hl hP hS
          refine lv_iload_n hx hb dX1_tick_31 rfl (lv_at hl 0 rfl) ?_
          refine lv_iload_n hx hb dX1_tick_32 rfl (lv_at hl 3 rfl) ?_
          refine lv_icmp_ge (tgt := 49) hx hb dX1_tick_33 (by decide) (fun h => absurd h (lp_in htk.1 (by omega) hi_31)) (fun _ => ?_)
          refine lv_iload_n hx hb dX1_tick_36 rfl (lv_at hl 1 rfl) ?_
          refine lv_aload_n hx hb dX1_tick_37 rfl (lv_at hl 2 rfl) ?_
          refine cl_WI (k_X1_tickOne l E q hq hT hC τ_31 hI ) gw_X1_117 hd_X1_tickOne ⟨rfl, rfl⟩ S0 hK hP hS (rest := [.int a2_31]) rfl hl.1 (Nat.le_of_ble_eq_true rfl) ⟨(Nat.le_of_ble_eq_true rfl), (Nat.le_of_ble_eq_true rfl)⟩ ⟨Nat.zero_le _, Nat.zero_le _⟩ dX1_tick_38 (fun H locs hP hS hex => ?_)
          obtain ⟨hI, -⟩ := hex
          refine lv_iadd hx hb dX1_tick_41 ?_
          refine lv_istore_n (lv' := [(2, .int (a2_31 + (f_X1_tickOne T C τ_31))), (3, .int (nI i_31)), (0, .ref (q 0)), (1, .int t9)]) hx hb dX1_tick_42 rfl hl (by decide) rfl (fun ls hl => ?_)
          refine lv_iinc (v := (nI (i_31 + 1))) (lv' := [(3, .int (nI (i_31 + 1))), (2, .int (a2_31 + (f_X1_tickOne T C τ_31))), (0, .ref (q 0)), (1, .int t9)]) hx hb dX1_tick_43 hl (k := 1) rfl (nI_1 _) (by decide) rfl (fun ls hl => ?_)
          refine lv_goto (tgt := 31) hx hb dX1_tick_46 (by decide) ?_
          exact ih_31 (i_31 + 1) (a2_31 + (f_X1_tickOne T C τ_31)) (g_X1_tickOne T C τ_31) ls H locs (by omega) hres_31 (Eq.subst (motive := fun z => Inv T C z) (show (g_X1_tickOne T C τ_31) = (g_X1_tickOne T C τ_31) from rfl) hI) (lv_sub (l' := [(3, .int (nI (i_31 + 1))), (2, .int (a2_31 + (f_X1_tickOne T C τ_31))), (0, .ref (q 0)), (1, .int t9)]) hl [0, 1, 2, 3] rfl) (Eq.subst (motive := fun z => PP 1 E q z H) (show (g_X1_tickOne T C τ_31) = (g_X1_tickOne T C τ_31) from rfl) hP) hS
      exact L_31 (ix t9) 0 0 (g_X1_isRefused T C σ (if (f_X1_in (Int32.toInt64 t9) 1 100) = 0 then 1 else 0) 0) ls H locs (Nat.zero_add _) rfl hI (lv_sub hl [0, 1, 2, 3] rfl) hP hS
    · skip
      refine lv_iconst (v := 0) hx hb dX1_tick_25 (by decide) ?_
      exact rt_WI hQ hx hb hr hlocks (Eq.subst (motive := fun z => PP 1 E q z H) (show (g_X1_isRefused T C σ (if (f_X1_in (Int32.toInt64 t9) 1 100) = 0 then 1 else 0) 0) = (g_X1_tick T C σ t9) from (Eq.symm (if_neg h22))) hP) hS ⟨(Eq.symm (if_neg h22)), ⟨Eq.subst (motive := fun z => Inv T C z) (show (g_X1_isRefused T C σ (if (f_X1_in (Int32.toInt64 t9) 1 100) = 0 then 1 else 0) 0) = (g_X1_tick T C σ t9) from (Eq.symm (if_neg h22))) hI, trivial⟩⟩ dX1_tick_26
  · refine lv_if_ne (tgt := 17) hx hb dX1_tick_10 (by decide) (fun h10 => ?_) (fun h10 => ?_)
    · skip
      refine lv_iconst (v := 0) hx hb dX1_tick_17 (by decide) ?_
      exact K10 _ _ _ _ ⟨0, (Eq.symm (if_neg h10)), rfl, lv_sub hl [0, 1] rfl, hP, hS, hI⟩
    · skip
      refine lv_iconst (v := 1) hx hb dX1_tick_13 (by decide) ?_
      refine lv_goto (tgt := 18) hx hb dX1_tick_14 (by decide) ?_
      exact K10 _ _ _ _ ⟨1, (Eq.symm (if_pos h10)), rfl, lv_sub hl [0, 1] rfl, hP, hS, hI⟩
def f_X1_createTask (T C : Nat) (σ : St) (c9 : Int32) (w9 : Int32) (k9 : Int32) : Int32 := (if (f_X1_isRefused T C σ (if (f_X1_noCpu T C σ c9) = 0 then (if (f_X1_noWeight w9) = 0 then (if (f_X1_noCookie k9) = 0 then 0 else 1) else 1) else 1) (if (σ.2.2 14) = 16 then 1 else 0)) = 0 then ((g_X1_isRefused T C σ (if (f_X1_noCpu T C σ c9) = 0 then (if (f_X1_noWeight w9) = 0 then (if (f_X1_noCookie k9) = 0 then 0 else 1) else 1) else 1) (if (σ.2.2 14) = 16 then 1 else 0)).2.2 14) else 0)
def g_X1_createTask (T C : Nat) (σ : St) (c9 : Int32) (w9 : Int32) (k9 : Int32) : St := (if (f_X1_isRefused T C σ (if (f_X1_noCpu T C σ c9) = 0 then (if (f_X1_noWeight w9) = 0 then (if (f_X1_noCookie k9) = 0 then 0 else 1) else 1) else 1) (if (σ.2.2 14) = 16 then 1 else 0)) = 0 then (sI (sI (sJ (sI (sI (sI (sI (sS (g_X1_isRefused T C σ (if (f_X1_noCpu T C σ c9) = 0 then (if (f_X1_noWeight w9) = 0 then (if (f_X1_noCookie k9) = 0 then 0 else 1) else 1) else 1) (if (σ.2.2 14) = 16 then 1 else 0)) 14 (((g_X1_isRefused T C σ (if (f_X1_noCpu T C σ c9) = 0 then (if (f_X1_noWeight w9) = 0 then (if (f_X1_noCookie k9) = 0 then 0 else 1) else 1) else 1) (if (σ.2.2 14) = 16 then 1 else 0)).2.2 14) + 1)) 0 (ix ((g_X1_isRefused T C σ (if (f_X1_noCpu T C σ c9) = 0 then (if (f_X1_noWeight w9) = 0 then (if (f_X1_noCookie k9) = 0 then 0 else 1) else 1) else 1) (if (σ.2.2 14) = 16 then 1 else 0)).2.2 14)) c9) 1 (ix ((g_X1_isRefused T C σ (if (f_X1_noCpu T C σ c9) = 0 then (if (f_X1_noWeight w9) = 0 then (if (f_X1_noCookie k9) = 0 then 0 else 1) else 1) else 1) (if (σ.2.2 14) = 16 then 1 else 0)).2.2 14)) w9) 2 (ix ((g_X1_isRefused T C σ (if (f_X1_noCpu T C σ c9) = 0 then (if (f_X1_noWeight w9) = 0 then (if (f_X1_noCookie k9) = 0 then 0 else 1) else 1) else 1) (if (σ.2.2 14) = 16 then 1 else 0)).2.2 14)) k9) 3 (ix ((g_X1_isRefused T C σ (if (f_X1_noCpu T C σ c9) = 0 then (if (f_X1_noWeight w9) = 0 then (if (f_X1_noCookie k9) = 0 then 0 else 1) else 1) else 1) (if (σ.2.2 14) = 16 then 1 else 0)).2.2 14)) 0) 4 (ix ((g_X1_isRefused T C σ (if (f_X1_noCpu T C σ c9) = 0 then (if (f_X1_noWeight w9) = 0 then (if (f_X1_noCookie k9) = 0 then 0 else 1) else 1) else 1) (if (σ.2.2 14) = 16 then 1 else 0)).2.2 14)) (if (lg_cmp ((sI (sI (sI (sI (sS (g_X1_isRefused T C σ (if (f_X1_noCpu T C σ c9) = 0 then (if (f_X1_noWeight w9) = 0 then (if (f_X1_noCookie k9) = 0 then 0 else 1) else 1) else 1) (if (σ.2.2 14) = 16 then 1 else 0)) 14 (((g_X1_isRefused T C σ (if (f_X1_noCpu T C σ c9) = 0 then (if (f_X1_noWeight w9) = 0 then (if (f_X1_noCookie k9) = 0 then 0 else 1) else 1) else 1) (if (σ.2.2 14) = 16 then 1 else 0)).2.2 14) + 1)) 0 (ix ((g_X1_isRefused T C σ (if (f_X1_noCpu T C σ c9) = 0 then (if (f_X1_noWeight w9) = 0 then (if (f_X1_noCookie k9) = 0 then 0 else 1) else 1) else 1) (if (σ.2.2 14) = 16 then 1 else 0)).2.2 14)) c9) 1 (ix ((g_X1_isRefused T C σ (if (f_X1_noCpu T C σ c9) = 0 then (if (f_X1_noWeight w9) = 0 then (if (f_X1_noCookie k9) = 0 then 0 else 1) else 1) else 1) (if (σ.2.2 14) = 16 then 1 else 0)).2.2 14)) w9) 2 (ix ((g_X1_isRefused T C σ (if (f_X1_noCpu T C σ c9) = 0 then (if (f_X1_noWeight w9) = 0 then (if (f_X1_noCookie k9) = 0 then 0 else 1) else 1) else 1) (if (σ.2.2 14) = 16 then 1 else 0)).2.2 14)) k9) 3 (ix ((g_X1_isRefused T C σ (if (f_X1_noCpu T C σ c9) = 0 then (if (f_X1_noWeight w9) = 0 then (if (f_X1_noCookie k9) = 0 then 0 else 1) else 1) else 1) (if (σ.2.2 14) = 16 then 1 else 0)).2.2 14)) 0).2.1 7 (ix c9)) 0) ≤ 0 then 0 else ((sI (sI (sI (sI (sS (g_X1_isRefused T C σ (if (f_X1_noCpu T C σ c9) = 0 then (if (f_X1_noWeight w9) = 0 then (if (f_X1_noCookie k9) = 0 then 0 else 1) else 1) else 1) (if (σ.2.2 14) = 16 then 1 else 0)) 14 (((g_X1_isRefused T C σ (if (f_X1_noCpu T C σ c9) = 0 then (if (f_X1_noWeight w9) = 0 then (if (f_X1_noCookie k9) = 0 then 0 else 1) else 1) else 1) (if (σ.2.2 14) = 16 then 1 else 0)).2.2 14) + 1)) 0 (ix ((g_X1_isRefused T C σ (if (f_X1_noCpu T C σ c9) = 0 then (if (f_X1_noWeight w9) = 0 then (if (f_X1_noCookie k9) = 0 then 0 else 1) else 1) else 1) (if (σ.2.2 14) = 16 then 1 else 0)).2.2 14)) c9) 1 (ix ((g_X1_isRefused T C σ (if (f_X1_noCpu T C σ c9) = 0 then (if (f_X1_noWeight w9) = 0 then (if (f_X1_noCookie k9) = 0 then 0 else 1) else 1) else 1) (if (σ.2.2 14) = 16 then 1 else 0)).2.2 14)) w9) 2 (ix ((g_X1_isRefused T C σ (if (f_X1_noCpu T C σ c9) = 0 then (if (f_X1_noWeight w9) = 0 then (if (f_X1_noCookie k9) = 0 then 0 else 1) else 1) else 1) (if (σ.2.2 14) = 16 then 1 else 0)).2.2 14)) k9) 3 (ix ((g_X1_isRefused T C σ (if (f_X1_noCpu T C σ c9) = 0 then (if (f_X1_noWeight w9) = 0 then (if (f_X1_noCookie k9) = 0 then 0 else 1) else 1) else 1) (if (σ.2.2 14) = 16 then 1 else 0)).2.2 14)) 0).2.1 7 (ix c9)))) 5 (ix ((g_X1_isRefused T C σ (if (f_X1_noCpu T C σ c9) = 0 then (if (f_X1_noWeight w9) = 0 then (if (f_X1_noCookie k9) = 0 then 0 else 1) else 1) else 1) (if (σ.2.2 14) = 16 then 1 else 0)).2.2 14)) 0) 6 (ix ((g_X1_isRefused T C σ (if (f_X1_noCpu T C σ c9) = 0 then (if (f_X1_noWeight w9) = 0 then (if (f_X1_noCookie k9) = 0 then 0 else 1) else 1) else 1) (if (σ.2.2 14) = 16 then 1 else 0)).2.2 14)) 0) else (g_X1_isRefused T C σ (if (f_X1_noCpu T C σ c9) = 0 then (if (f_X1_noWeight w9) = 0 then (if (f_X1_noCookie k9) = 0 then 0 else 1) else 1) else 1) (if (σ.2.2 14) = 16 then 1 else 0)))
def rm_X1_createTask : Room := { frames := 2, cells := 0, slots := 0, locals := 46 }
set_option maxHeartbeats 1600000 in
set_option maxRecDepth 100000 in
theorem k_X1_createTask (l : Launch) (E : Ev) (q : Nat → Nat) (hq : Dq q) {T C : Nat} (hT : T ≤ 16) (hC : 1 ≤ C ∧ C ≤ 4) (σ : St) (hI : Inv T C σ) (c9 : Int32) (w9 : Int32) (k9 : Int32) : WI l 1 E q σ yX1_createTask cX1_createTask 5 (some .int) rm_X1_createTask [.int c9, .int w9, .int k9] (f_X1_createTask T C σ c9 w9 k9) (g_X1_createTask T C σ c9 w9 k9) True := by
  refine Met.ofB (by decide) (Nat.le_of_ble_eq_true rfl) (fun p e s m args below meth c ls Q B hQ hPK hl => ?_)
  obtain ⟨hx, hb, hml, hr, hlocks, hown, hts⟩ := B
  have S0 : Fx p m c cX1_createTask 5 s args RX1 := ⟨hx, hb, hml, hown, hts⟩
  obtain ⟨hP, hK⟩ := hPK
  suffices KH : ∀ (H : Heap) (locs : List Loc), PP 1 E q σ H → va_S (Aq q) s.heap H locs → W p l e rm_X1_createTask s m args below meth c H locs 0 0 Q (F0 m 0 ls []) from KH s.heap [] hP va_S.rf
  intro H locs hP hS
  have hl : lv_has ls 5 [(0, .ref (q 0)), (1, .int c9), (2, .int w9), (3, .int k9)] := hl
  have hI0 := hI
  refine lv_aload_n hx hb dX1_createTask_0 rfl (lv_at hl 0 rfl) ?_
  refine lv_aload_n hx hb dX1_createTask_1 rfl (lv_at hl 0 rfl) ?_
  refine lv_iload_n hx hb dX1_createTask_2 rfl (lv_at hl 1 rfl) ?_
  refine cl_RI (k_X1_noCpu l E q hq hT hC σ hI c9 ) gw_X1_125 hd_X1_noCpu ⟨rfl, rfl⟩ S0 hK hP (rest := [.ref (q 0)]) rfl hl.1 (Nat.le_of_ble_eq_true rfl) ⟨(Nat.le_of_ble_eq_true rfl), (Nat.le_of_ble_eq_true rfl)⟩ ⟨Nat.zero_le _, Nat.zero_le _⟩ dX1_createTask_3 (fun hex => ?_)
  refine cutG (fun ls H locs st => ∃ y0 : Int32, y0 = (if (f_X1_noCpu T C σ c9) = 0 then (if (f_X1_noWeight w9) = 0 then (if (f_X1_noCookie k9) = 0 then 0 else 1) else 1) else 1) ∧ st = [.int y0, .ref (q 0)] ∧ lv_has ls 5 [(0, .ref (q 0)), (1, .int c9), (2, .int w9), (3, .int k9)] ∧ PP 1 E q σ H ∧ va_S (Aq q) s.heap H locs ∧ Inv T C σ) 28 (fun ls H locs st hKp => ?_) (fun K6 => ?_)
  · revert hKp
    refine ex_eq (fun hKp => ?_)
    obtain ⟨rfl, hl, hP, hS, hI⟩ := hKp
    refine lv_aload_n hx hb dX1_createTask_28 rfl (lv_at hl 0 rfl) ?_
    refine gf_X1_69 hx hb hts hown hK hP dX1_createTask_29 ?_
    refine lv_bipush (v := 16) hx hb dX1_createTask_32 (by decide) ?_
    refine cutG (fun ls H locs st => ∃ y0 : Int32, y0 = (if (σ.2.2 14) = 16 then 1 else 0) ∧ st = [.int y0, .int (if (f_X1_noCpu T C σ c9) = 0 then (if (f_X1_noWeight w9) = 0 then (if (f_X1_noCookie k9) = 0 then 0 else 1) else 1) else 1), .ref (q 0)] ∧ lv_has ls 5 [(0, .ref (q 0)), (1, .int c9), (2, .int w9), (3, .int k9)] ∧ PP 1 E q σ H ∧ va_S (Aq q) s.heap H locs ∧ Inv T C σ) 42 (fun ls H locs st hKp => ?_) (fun K34 => ?_)
    · revert hKp
      refine ex_eq (fun hKp => ?_)
      obtain ⟨rfl, hl, hP, hS, hI⟩ := hKp
      refine cl_WI (k_X1_isRefused l E q hq hT hC σ hI (if (f_X1_noCpu T C σ c9) = 0 then (if (f_X1_noWeight w9) = 0 then (if (f_X1_noCookie k9) = 0 then 0 else 1) else 1) else 1) (if (σ.2.2 14) = 16 then 1 else 0) ) gw_X1_78 hd_X1_isRefused ⟨rfl, rfl⟩ S0 hK hP hS (rest := []) rfl hl.1 (Nat.le_of_ble_eq_true rfl) ⟨(Nat.le_of_ble_eq_true rfl), (Nat.le_of_ble_eq_true rfl)⟩ ⟨Nat.zero_le _, Nat.zero_le _⟩ dX1_createTask_42 (fun H locs hP hS hex => ?_)
      obtain ⟨hI, -⟩ := hex
      refine lv_if_eq (tgt := 50) hx hb dX1_createTask_45 (by decide) (fun h45 => ?_) (fun h45 => ?_)
      · skip
        refine lv_aload_n hx hb dX1_createTask_50 rfl (lv_at hl 0 rfl) ?_
        refine gf_X1_69 hx hb hts hown hK hP dX1_createTask_51 ?_
        refine lv_istore (lv' := [(4, .int ((g_X1_isRefused T C σ (if (f_X1_noCpu T C σ c9) = 0 then (if (f_X1_noWeight w9) = 0 then (if (f_X1_noCookie k9) = 0 then 0 else 1) else 1) else 1) (if (σ.2.2 14) = 16 then 1 else 0)).2.2 14)), (0, .ref (q 0)), (1, .int c9), (2, .int w9), (3, .int k9)]) hx hb dX1_createTask_54 hl (by decide) rfl (fun ls hl => ?_)
        refine lv_aload_n hx hb dX1_createTask_56 rfl (lv_at hl 1 rfl) ?_
        refine lv_dup hx hb dX1_createTask_57 rfl ?_
        refine gf_X1_69 hx hb hts hown hK hP dX1_createTask_58 ?_
        refine lv_iconst (v := 1) hx hb dX1_createTask_61 (by decide) ?_
        refine lv_iadd hx hb dX1_createTask_62 ?_
        refine pf_X1_69 hx hb hts hown hK hq hP hS dX1_createTask_63 (fun H locs hP hS => ?_)
        refine lv_aload_n hx hb dX1_createTask_66 rfl (lv_at hl 1 rfl) ?_
        refine gf_X1_34 hx hb hts hown hK hP dX1_createTask_67 ?_
        refine lv_iload hx hb dX1_createTask_70 (lv_at hl 0 rfl) ?_
        refine lv_iload_n hx hb dX1_createTask_72 rfl (lv_at hl 2 rfl) ?_
        refine st_0 hx hb hK hq hP hS (newT hI0 hT (ref0 h45).2) dX1_createTask_73 (fun H locs hP hS => ?_)
        refine lv_aload_n hx hb dX1_createTask_74 rfl (lv_at hl 1 rfl) ?_
        refine gf_X1_37 hx hb hts hown hK hP dX1_createTask_75 ?_
        refine lv_iload hx hb dX1_createTask_78 (lv_at hl 0 rfl) ?_
        refine lv_iload_n hx hb dX1_createTask_80 rfl (lv_at hl 3 rfl) ?_
        refine st_1 hx hb hK hq hP hS (newT hI0 hT (ref0 h45).2) dX1_createTask_81 (fun H locs hP hS => ?_)
        refine lv_aload_n hx hb dX1_createTask_82 rfl (lv_at hl 1 rfl) ?_
        refine gf_X1_40 hx hb hts hown hK hP dX1_createTask_83 ?_
        refine lv_iload hx hb dX1_createTask_86 (lv_at hl 0 rfl) ?_
        refine lv_iload_n hx hb dX1_createTask_88 rfl (lv_at hl 4 rfl) ?_
        refine st_2 hx hb hK hq hP hS (newT hI0 hT (ref0 h45).2) dX1_createTask_89 (fun H locs hP hS => ?_)
        refine lv_aload_n hx hb dX1_createTask_90 rfl (lv_at hl 1 rfl) ?_
        refine gf_X1_43 hx hb hts hown hK hP dX1_createTask_91 ?_
        refine lv_iload hx hb dX1_createTask_94 (lv_at hl 0 rfl) ?_
        refine lv_iconst (v := 0) hx hb dX1_createTask_96 (by decide) ?_
        refine st_3 hx hb hK hq hP hS (newT hI0 hT (ref0 h45).2) dX1_createTask_97 (fun H locs hP hS => ?_)
        refine lv_aload_n hx hb dX1_createTask_98 rfl (lv_at hl 1 rfl) ?_
        refine gf_X1_46 hx hb hts hown hK hP dX1_createTask_99 ?_
        refine lv_iload hx hb dX1_createTask_102 (lv_at hl 0 rfl) ?_
        refine lv_aload_n hx hb dX1_createTask_104 rfl (lv_at hl 1 rfl) ?_
        refine gf_X1_13 hx hb hts hown hK hP dX1_createTask_105 ?_
        refine lv_iload_n hx hb dX1_createTask_108 rfl (lv_at hl 2 rfl) ?_
        refine ld_7 hx hb hK hP (inC hI0 hC (or0 (ref0 h45).1).1) dX1_createTask_109 ?_
        refine lv_lconst (v := 0) hx hb dX1_createTask_110 (by decide) ?_
        refine W.lcmp hx hb dX1_createTask_111 ?_
        refine cutG (fun ls H locs st => ∃ y0 : Int64, y0 = (if (lg_cmp ((sI (sI (sI (sI (sS (g_X1_isRefused T C σ (if (f_X1_noCpu T C σ c9) = 0 then (if (f_X1_noWeight w9) = 0 then (if (f_X1_noCookie k9) = 0 then 0 else 1) else 1) else 1) (if (σ.2.2 14) = 16 then 1 else 0)) 14 (((g_X1_isRefused T C σ (if (f_X1_noCpu T C σ c9) = 0 then (if (f_X1_noWeight w9) = 0 then (if (f_X1_noCookie k9) = 0 then 0 else 1) else 1) else 1) (if (σ.2.2 14) = 16 then 1 else 0)).2.2 14) + 1)) 0 (ix ((g_X1_isRefused T C σ (if (f_X1_noCpu T C σ c9) = 0 then (if (f_X1_noWeight w9) = 0 then (if (f_X1_noCookie k9) = 0 then 0 else 1) else 1) else 1) (if (σ.2.2 14) = 16 then 1 else 0)).2.2 14)) c9) 1 (ix ((g_X1_isRefused T C σ (if (f_X1_noCpu T C σ c9) = 0 then (if (f_X1_noWeight w9) = 0 then (if (f_X1_noCookie k9) = 0 then 0 else 1) else 1) else 1) (if (σ.2.2 14) = 16 then 1 else 0)).2.2 14)) w9) 2 (ix ((g_X1_isRefused T C σ (if (f_X1_noCpu T C σ c9) = 0 then (if (f_X1_noWeight w9) = 0 then (if (f_X1_noCookie k9) = 0 then 0 else 1) else 1) else 1) (if (σ.2.2 14) = 16 then 1 else 0)).2.2 14)) k9) 3 (ix ((g_X1_isRefused T C σ (if (f_X1_noCpu T C σ c9) = 0 then (if (f_X1_noWeight w9) = 0 then (if (f_X1_noCookie k9) = 0 then 0 else 1) else 1) else 1) (if (σ.2.2 14) = 16 then 1 else 0)).2.2 14)) 0).2.1 7 (ix c9)) 0) ≤ 0 then 0 else ((sI (sI (sI (sI (sS (g_X1_isRefused T C σ (if (f_X1_noCpu T C σ c9) = 0 then (if (f_X1_noWeight w9) = 0 then (if (f_X1_noCookie k9) = 0 then 0 else 1) else 1) else 1) (if (σ.2.2 14) = 16 then 1 else 0)) 14 (((g_X1_isRefused T C σ (if (f_X1_noCpu T C σ c9) = 0 then (if (f_X1_noWeight w9) = 0 then (if (f_X1_noCookie k9) = 0 then 0 else 1) else 1) else 1) (if (σ.2.2 14) = 16 then 1 else 0)).2.2 14) + 1)) 0 (ix ((g_X1_isRefused T C σ (if (f_X1_noCpu T C σ c9) = 0 then (if (f_X1_noWeight w9) = 0 then (if (f_X1_noCookie k9) = 0 then 0 else 1) else 1) else 1) (if (σ.2.2 14) = 16 then 1 else 0)).2.2 14)) c9) 1 (ix ((g_X1_isRefused T C σ (if (f_X1_noCpu T C σ c9) = 0 then (if (f_X1_noWeight w9) = 0 then (if (f_X1_noCookie k9) = 0 then 0 else 1) else 1) else 1) (if (σ.2.2 14) = 16 then 1 else 0)).2.2 14)) w9) 2 (ix ((g_X1_isRefused T C σ (if (f_X1_noCpu T C σ c9) = 0 then (if (f_X1_noWeight w9) = 0 then (if (f_X1_noCookie k9) = 0 then 0 else 1) else 1) else 1) (if (σ.2.2 14) = 16 then 1 else 0)).2.2 14)) k9) 3 (ix ((g_X1_isRefused T C σ (if (f_X1_noCpu T C σ c9) = 0 then (if (f_X1_noWeight w9) = 0 then (if (f_X1_noCookie k9) = 0 then 0 else 1) else 1) else 1) (if (σ.2.2 14) = 16 then 1 else 0)).2.2 14)) 0).2.1 7 (ix c9))) ∧ st = [.long y0, .int ((g_X1_isRefused T C σ (if (f_X1_noCpu T C σ c9) = 0 then (if (f_X1_noWeight w9) = 0 then (if (f_X1_noCookie k9) = 0 then 0 else 1) else 1) else 1) (if (σ.2.2 14) = 16 then 1 else 0)).2.2 14), .ref (q 5)] ∧ lv_has ls 5 [(4, .int ((g_X1_isRefused T C σ (if (f_X1_noCpu T C σ c9) = 0 then (if (f_X1_noWeight w9) = 0 then (if (f_X1_noCookie k9) = 0 then 0 else 1) else 1) else 1) (if (σ.2.2 14) = 16 then 1 else 0)).2.2 14)), (0, .ref (q 0)), (1, .int c9), (2, .int w9), (3, .int k9)] ∧ PP 1 E q (sI (sI (sI (sI (sS (g_X1_isRefused T C σ (if (f_X1_noCpu T C σ c9) = 0 then (if (f_X1_noWeight w9) = 0 then (if (f_X1_noCookie k9) = 0 then 0 else 1) else 1) else 1) (if (σ.2.2 14) = 16 then 1 else 0)) 14 (((g_X1_isRefused T C σ (if (f_X1_noCpu T C σ c9) = 0 then (if (f_X1_noWeight w9) = 0 then (if (f_X1_noCookie k9) = 0 then 0 else 1) else 1) else 1) (if (σ.2.2 14) = 16 then 1 else 0)).2.2 14) + 1)) 0 (ix ((g_X1_isRefused T C σ (if (f_X1_noCpu T C σ c9) = 0 then (if (f_X1_noWeight w9) = 0 then (if (f_X1_noCookie k9) = 0 then 0 else 1) else 1) else 1) (if (σ.2.2 14) = 16 then 1 else 0)).2.2 14)) c9) 1 (ix ((g_X1_isRefused T C σ (if (f_X1_noCpu T C σ c9) = 0 then (if (f_X1_noWeight w9) = 0 then (if (f_X1_noCookie k9) = 0 then 0 else 1) else 1) else 1) (if (σ.2.2 14) = 16 then 1 else 0)).2.2 14)) w9) 2 (ix ((g_X1_isRefused T C σ (if (f_X1_noCpu T C σ c9) = 0 then (if (f_X1_noWeight w9) = 0 then (if (f_X1_noCookie k9) = 0 then 0 else 1) else 1) else 1) (if (σ.2.2 14) = 16 then 1 else 0)).2.2 14)) k9) 3 (ix ((g_X1_isRefused T C σ (if (f_X1_noCpu T C σ c9) = 0 then (if (f_X1_noWeight w9) = 0 then (if (f_X1_noCookie k9) = 0 then 0 else 1) else 1) else 1) (if (σ.2.2 14) = 16 then 1 else 0)).2.2 14)) 0) H ∧ va_S (Aq q) s.heap H locs) 125 (fun ls H locs st hKp => ?_) (fun K112 => ?_)
        · revert hKp
          refine ex_eq (fun hKp => ?_)
          obtain ⟨rfl, hl, hP, hS⟩ := hKp
          refine st_4 hx hb hK hq hP hS (newT hI0 hT (ref0 h45).2) dX1_createTask_125 (fun H locs hP hS => ?_)
          refine lv_aload_n hx hb dX1_createTask_126 rfl (lv_at hl 1 rfl) ?_
          refine gf_X1_49 hx hb hts hown hK hP dX1_createTask_127 ?_
          refine lv_iload hx hb dX1_createTask_130 (lv_at hl 0 rfl) ?_
          refine lv_iconst (v := 0) hx hb dX1_createTask_132 (by decide) ?_
          refine st_5 hx hb hK hq hP hS (newT hI0 hT (ref0 h45).2) dX1_createTask_133 (fun H locs hP hS => ?_)
          refine lv_aload_n hx hb dX1_createTask_134 rfl (lv_at hl 1 rfl) ?_
          refine gf_X1_52 hx hb hts hown hK hP dX1_createTask_135 ?_
          refine lv_iload hx hb dX1_createTask_138 (lv_at hl 0 rfl) ?_
          refine lv_iconst (v := 0) hx hb dX1_createTask_140 (by decide) ?_
          refine st_6 hx hb hK hq hP hS (newT hI0 hT (ref0 h45).2) dX1_createTask_141 (fun H locs hP hS => ?_)
          refine lv_iload hx hb dX1_createTask_142 (lv_at hl 0 rfl) ?_
          exact rt_WI hQ hx hb hr hlocks (Eq.subst (motive := fun z => PP 1 E q z H) (show (sI (sI (sJ (sI (sI (sI (sI (sS (g_X1_isRefused T C σ (if (f_X1_noCpu T C σ c9) = 0 then (if (f_X1_noWeight w9) = 0 then (if (f_X1_noCookie k9) = 0 then 0 else 1) else 1) else 1) (if (σ.2.2 14) = 16 then 1 else 0)) 14 (((g_X1_isRefused T C σ (if (f_X1_noCpu T C σ c9) = 0 then (if (f_X1_noWeight w9) = 0 then (if (f_X1_noCookie k9) = 0 then 0 else 1) else 1) else 1) (if (σ.2.2 14) = 16 then 1 else 0)).2.2 14) + 1)) 0 (ix ((g_X1_isRefused T C σ (if (f_X1_noCpu T C σ c9) = 0 then (if (f_X1_noWeight w9) = 0 then (if (f_X1_noCookie k9) = 0 then 0 else 1) else 1) else 1) (if (σ.2.2 14) = 16 then 1 else 0)).2.2 14)) c9) 1 (ix ((g_X1_isRefused T C σ (if (f_X1_noCpu T C σ c9) = 0 then (if (f_X1_noWeight w9) = 0 then (if (f_X1_noCookie k9) = 0 then 0 else 1) else 1) else 1) (if (σ.2.2 14) = 16 then 1 else 0)).2.2 14)) w9) 2 (ix ((g_X1_isRefused T C σ (if (f_X1_noCpu T C σ c9) = 0 then (if (f_X1_noWeight w9) = 0 then (if (f_X1_noCookie k9) = 0 then 0 else 1) else 1) else 1) (if (σ.2.2 14) = 16 then 1 else 0)).2.2 14)) k9) 3 (ix ((g_X1_isRefused T C σ (if (f_X1_noCpu T C σ c9) = 0 then (if (f_X1_noWeight w9) = 0 then (if (f_X1_noCookie k9) = 0 then 0 else 1) else 1) else 1) (if (σ.2.2 14) = 16 then 1 else 0)).2.2 14)) 0) 4 (ix ((g_X1_isRefused T C σ (if (f_X1_noCpu T C σ c9) = 0 then (if (f_X1_noWeight w9) = 0 then (if (f_X1_noCookie k9) = 0 then 0 else 1) else 1) else 1) (if (σ.2.2 14) = 16 then 1 else 0)).2.2 14)) (if (lg_cmp ((sI (sI (sI (sI (sS (g_X1_isRefused T C σ (if (f_X1_noCpu T C σ c9) = 0 then (if (f_X1_noWeight w9) = 0 then (if (f_X1_noCookie k9) = 0 then 0 else 1) else 1) else 1) (if (σ.2.2 14) = 16 then 1 else 0)) 14 (((g_X1_isRefused T C σ (if (f_X1_noCpu T C σ c9) = 0 then (if (f_X1_noWeight w9) = 0 then (if (f_X1_noCookie k9) = 0 then 0 else 1) else 1) else 1) (if (σ.2.2 14) = 16 then 1 else 0)).2.2 14) + 1)) 0 (ix ((g_X1_isRefused T C σ (if (f_X1_noCpu T C σ c9) = 0 then (if (f_X1_noWeight w9) = 0 then (if (f_X1_noCookie k9) = 0 then 0 else 1) else 1) else 1) (if (σ.2.2 14) = 16 then 1 else 0)).2.2 14)) c9) 1 (ix ((g_X1_isRefused T C σ (if (f_X1_noCpu T C σ c9) = 0 then (if (f_X1_noWeight w9) = 0 then (if (f_X1_noCookie k9) = 0 then 0 else 1) else 1) else 1) (if (σ.2.2 14) = 16 then 1 else 0)).2.2 14)) w9) 2 (ix ((g_X1_isRefused T C σ (if (f_X1_noCpu T C σ c9) = 0 then (if (f_X1_noWeight w9) = 0 then (if (f_X1_noCookie k9) = 0 then 0 else 1) else 1) else 1) (if (σ.2.2 14) = 16 then 1 else 0)).2.2 14)) k9) 3 (ix ((g_X1_isRefused T C σ (if (f_X1_noCpu T C σ c9) = 0 then (if (f_X1_noWeight w9) = 0 then (if (f_X1_noCookie k9) = 0 then 0 else 1) else 1) else 1) (if (σ.2.2 14) = 16 then 1 else 0)).2.2 14)) 0).2.1 7 (ix c9)) 0) ≤ 0 then 0 else ((sI (sI (sI (sI (sS (g_X1_isRefused T C σ (if (f_X1_noCpu T C σ c9) = 0 then (if (f_X1_noWeight w9) = 0 then (if (f_X1_noCookie k9) = 0 then 0 else 1) else 1) else 1) (if (σ.2.2 14) = 16 then 1 else 0)) 14 (((g_X1_isRefused T C σ (if (f_X1_noCpu T C σ c9) = 0 then (if (f_X1_noWeight w9) = 0 then (if (f_X1_noCookie k9) = 0 then 0 else 1) else 1) else 1) (if (σ.2.2 14) = 16 then 1 else 0)).2.2 14) + 1)) 0 (ix ((g_X1_isRefused T C σ (if (f_X1_noCpu T C σ c9) = 0 then (if (f_X1_noWeight w9) = 0 then (if (f_X1_noCookie k9) = 0 then 0 else 1) else 1) else 1) (if (σ.2.2 14) = 16 then 1 else 0)).2.2 14)) c9) 1 (ix ((g_X1_isRefused T C σ (if (f_X1_noCpu T C σ c9) = 0 then (if (f_X1_noWeight w9) = 0 then (if (f_X1_noCookie k9) = 0 then 0 else 1) else 1) else 1) (if (σ.2.2 14) = 16 then 1 else 0)).2.2 14)) w9) 2 (ix ((g_X1_isRefused T C σ (if (f_X1_noCpu T C σ c9) = 0 then (if (f_X1_noWeight w9) = 0 then (if (f_X1_noCookie k9) = 0 then 0 else 1) else 1) else 1) (if (σ.2.2 14) = 16 then 1 else 0)).2.2 14)) k9) 3 (ix ((g_X1_isRefused T C σ (if (f_X1_noCpu T C σ c9) = 0 then (if (f_X1_noWeight w9) = 0 then (if (f_X1_noCookie k9) = 0 then 0 else 1) else 1) else 1) (if (σ.2.2 14) = 16 then 1 else 0)).2.2 14)) 0).2.1 7 (ix c9)))) 5 (ix ((g_X1_isRefused T C σ (if (f_X1_noCpu T C σ c9) = 0 then (if (f_X1_noWeight w9) = 0 then (if (f_X1_noCookie k9) = 0 then 0 else 1) else 1) else 1) (if (σ.2.2 14) = 16 then 1 else 0)).2.2 14)) 0) 6 (ix ((g_X1_isRefused T C σ (if (f_X1_noCpu T C σ c9) = 0 then (if (f_X1_noWeight w9) = 0 then (if (f_X1_noCookie k9) = 0 then 0 else 1) else 1) else 1) (if (σ.2.2 14) = 16 then 1 else 0)).2.2 14)) 0) = (g_X1_createTask T C σ c9 w9 k9) from (Eq.symm (if_pos h45))) hP) hS ⟨(Eq.symm (if_pos h45)), trivial⟩ dX1_createTask_144
        · refine lv_if_le (tgt := 124) hx hb dX1_createTask_112 (by decide) (fun h112 => ?_) (fun h112 => ?_)
          · skip
            refine lv_lconst (v := 0) hx hb dX1_createTask_124 (by decide) ?_
            exact K112 _ _ _ _ ⟨0, (Eq.symm (if_pos h112)), rfl, lv_sub hl [0, 1, 2, 3, 4] rfl, hP, hS⟩
          · skip
            refine lv_aload_n hx hb dX1_createTask_115 rfl (lv_at hl 1 rfl) ?_
            refine gf_X1_13 hx hb hts hown hK hP dX1_createTask_116 ?_
            refine lv_iload_n hx hb dX1_createTask_119 rfl (lv_at hl 2 rfl) ?_
            refine ld_7 hx hb hK hP (inC hI0 hC (or0 (ref0 h45).1).1) dX1_createTask_120 ?_
            refine lv_goto (tgt := 125) hx hb dX1_createTask_121 (by decide) ?_
            exact K112 _ _ _ _ ⟨((sI (sI (sI (sI (sS (g_X1_isRefused T C σ (if (f_X1_noCpu T C σ c9) = 0 then (if (f_X1_noWeight w9) = 0 then (if (f_X1_noCookie k9) = 0 then 0 else 1) else 1) else 1) (if (σ.2.2 14) = 16 then 1 else 0)) 14 (((g_X1_isRefused T C σ (if (f_X1_noCpu T C σ c9) = 0 then (if (f_X1_noWeight w9) = 0 then (if (f_X1_noCookie k9) = 0 then 0 else 1) else 1) else 1) (if (σ.2.2 14) = 16 then 1 else 0)).2.2 14) + 1)) 0 (ix ((g_X1_isRefused T C σ (if (f_X1_noCpu T C σ c9) = 0 then (if (f_X1_noWeight w9) = 0 then (if (f_X1_noCookie k9) = 0 then 0 else 1) else 1) else 1) (if (σ.2.2 14) = 16 then 1 else 0)).2.2 14)) c9) 1 (ix ((g_X1_isRefused T C σ (if (f_X1_noCpu T C σ c9) = 0 then (if (f_X1_noWeight w9) = 0 then (if (f_X1_noCookie k9) = 0 then 0 else 1) else 1) else 1) (if (σ.2.2 14) = 16 then 1 else 0)).2.2 14)) w9) 2 (ix ((g_X1_isRefused T C σ (if (f_X1_noCpu T C σ c9) = 0 then (if (f_X1_noWeight w9) = 0 then (if (f_X1_noCookie k9) = 0 then 0 else 1) else 1) else 1) (if (σ.2.2 14) = 16 then 1 else 0)).2.2 14)) k9) 3 (ix ((g_X1_isRefused T C σ (if (f_X1_noCpu T C σ c9) = 0 then (if (f_X1_noWeight w9) = 0 then (if (f_X1_noCookie k9) = 0 then 0 else 1) else 1) else 1) (if (σ.2.2 14) = 16 then 1 else 0)).2.2 14)) 0).2.1 7 (ix c9)), (Eq.symm (if_neg h112)), rfl, lv_sub hl [0, 1, 2, 3, 4] rfl, hP, hS⟩
      · skip
        refine lv_iconst (v := 0) hx hb dX1_createTask_48 (by decide) ?_
        exact rt_WI hQ hx hb hr hlocks (Eq.subst (motive := fun z => PP 1 E q z H) (show (g_X1_isRefused T C σ (if (f_X1_noCpu T C σ c9) = 0 then (if (f_X1_noWeight w9) = 0 then (if (f_X1_noCookie k9) = 0 then 0 else 1) else 1) else 1) (if (σ.2.2 14) = 16 then 1 else 0)) = (g_X1_createTask T C σ c9 w9 k9) from (Eq.symm (if_neg h45))) hP) hS ⟨(Eq.symm (if_neg h45)), trivial⟩ dX1_createTask_49
    · refine lv_icmp_ne (tgt := 41) hx hb dX1_createTask_34 (by decide) (fun h34 => ?_) (fun h34 => ?_)
      · skip
        refine lv_iconst (v := 0) hx hb dX1_createTask_41 (by decide) ?_
        exact K34 _ _ _ _ ⟨0, (Eq.symm (if_neg h34)), rfl, lv_sub hl [0, 1, 2, 3] rfl, hP, hS, hI⟩
      · skip
        refine lv_iconst (v := 1) hx hb dX1_createTask_37 (by decide) ?_
        refine lv_goto (tgt := 42) hx hb dX1_createTask_38 (by decide) ?_
        exact K34 _ _ _ _ ⟨1, (Eq.symm (if_pos h34)), rfl, lv_sub hl [0, 1, 2, 3] rfl, hP, hS, hI⟩
  · refine lv_if_ne (tgt := 23) hx hb dX1_createTask_6 (by decide) (fun h6 => ?_) (fun h6 => ?_)
    · skip
      refine lv_iconst (v := 1) hx hb dX1_createTask_23 (by decide) ?_
      refine lv_goto (tgt := 28) hx hb dX1_createTask_24 (by decide) ?_
      exact K6 _ _ _ _ ⟨1, (Eq.symm (if_neg h6)), rfl, lv_sub hl [0, 1, 2, 3] rfl, hP, hS, hI⟩
    · skip
      refine lv_iload_n hx hb dX1_createTask_9 rfl (lv_at hl 2 rfl) ?_
      refine cl_NI (k_X1_noWeight l w9) gw_X1_128 hd_X1_noWeight ⟨rfl, rfl⟩ S0 (rest := [.ref (q 0)]) rfl hl.1 (Nat.le_of_ble_eq_true rfl) ⟨(Nat.le_of_ble_eq_true rfl), (Nat.le_of_ble_eq_true rfl)⟩ ⟨Nat.zero_le _, Nat.zero_le _⟩ dX1_createTask_10 ?_
      refine lv_if_ne (tgt := 23) hx hb dX1_createTask_13 (by decide) (fun h13 => ?_) (fun h13 => ?_)
      · skip
        refine lv_iconst (v := 1) hx hb dX1_createTask_23 (by decide) ?_
        refine lv_goto (tgt := 28) hx hb dX1_createTask_24 (by decide) ?_
        exact K6 _ _ _ _ ⟨1, (Eq.symm (Eq.trans (if_pos h6) (if_neg h13))), rfl, lv_sub hl [0, 1, 2, 3] rfl, hP, hS, hI⟩
      · skip
        refine lv_iload_n hx hb dX1_createTask_16 rfl (lv_at hl 3 rfl) ?_
        refine cl_NI (k_X1_noCookie l k9) gw_X1_131 hd_X1_noCookie ⟨rfl, rfl⟩ S0 (rest := [.ref (q 0)]) rfl hl.1 (Nat.le_of_ble_eq_true rfl) ⟨(Nat.le_of_ble_eq_true rfl), (Nat.le_of_ble_eq_true rfl)⟩ ⟨Nat.zero_le _, Nat.zero_le _⟩ dX1_createTask_17 ?_
        refine lv_if_eq (tgt := 27) hx hb dX1_createTask_20 (by decide) (fun h20 => ?_) (fun h20 => ?_)
        · skip
          refine lv_iconst (v := 0) hx hb dX1_createTask_27 (by decide) ?_
          exact K6 _ _ _ _ ⟨0, (Eq.symm (Eq.trans (Eq.trans (if_pos h6) (if_pos h13)) (if_pos h20))), rfl, lv_sub hl [0, 1, 2, 3] rfl, hP, hS, hI⟩
        · skip
          refine lv_iconst (v := 1) hx hb dX1_createTask_23 (by decide) ?_
          refine lv_goto (tgt := 28) hx hb dX1_createTask_24 (by decide) ?_
          exact K6 _ _ _ _ ⟨1, (Eq.symm (Eq.trans (Eq.trans (if_pos h6) (if_pos h13)) (if_neg h20))), rfl, lv_sub hl [0, 1, 2, 3] rfl, hP, hS, hI⟩
def f_X1_sleep (T C : Nat) (σ : St) (t : Int32) : Int32 := (if (f_X1_isRefused T C σ (f_X1_noTask T C σ t) (if (f_X1_noTask T C σ t) = 0 then (if (f_X1_isRunnable T C σ t) = 0 then 1 else 0) else 0)) = 0 then (f_X1_becomes T C (g_X1_isRefused T C σ (f_X1_noTask T C σ t) (if (f_X1_noTask T C σ t) = 0 then (if (f_X1_isRunnable T C σ t) = 0 then 1 else 0) else 0)) t 2) else 0)
def g_X1_sleep (T C : Nat) (σ : St) (t : Int32) : St := (if (f_X1_isRefused T C σ (f_X1_noTask T C σ t) (if (f_X1_noTask T C σ t) = 0 then (if (f_X1_isRunnable T C σ t) = 0 then 1 else 0) else 0)) = 0 then (g_X1_becomes T C (g_X1_isRefused T C σ (f_X1_noTask T C σ t) (if (f_X1_noTask T C σ t) = 0 then (if (f_X1_isRunnable T C σ t) = 0 then 1 else 0) else 0)) t 2) else (g_X1_isRefused T C σ (f_X1_noTask T C σ t) (if (f_X1_noTask T C σ t) = 0 then (if (f_X1_isRunnable T C σ t) = 0 then 1 else 0) else 0)))
def rm_X1_sleep : Room := { frames := 2, cells := 0, slots := 0, locals := 46 }
set_option maxHeartbeats 1600000 in
set_option maxRecDepth 100000 in
theorem k_X1_sleep (l : Launch) (E : Ev) (q : Nat → Nat) (hq : Dq q) {T C : Nat} (hT : T ≤ 16) (hC : 1 ≤ C ∧ C ≤ 4) (σ : St) (hI : Inv T C σ) (t : Int32) : WI l 1 E q σ yX1_sleep cX1_sleep 2 (some .int) rm_X1_sleep [.int t] (f_X1_sleep T C σ t) (g_X1_sleep T C σ t) (Inv T C (g_X1_sleep T C σ t) ∧ True) := by
  refine Met.ofB (by decide) (Nat.le_of_ble_eq_true rfl) (fun p e s m args below meth c ls Q B hQ hPK hl => ?_)
  obtain ⟨hx, hb, hml, hr, hlocks, hown, hts⟩ := B
  have S0 : Fx p m c cX1_sleep 2 s args RX1 := ⟨hx, hb, hml, hown, hts⟩
  obtain ⟨hP, hK⟩ := hPK
  suffices KH : ∀ (H : Heap) (locs : List Loc), PP 1 E q σ H → va_S (Aq q) s.heap H locs → W p l e rm_X1_sleep s m args below meth c H locs 0 0 Q (F0 m 0 ls []) from KH s.heap [] hP va_S.rf
  intro H locs hP hS
  have hl : lv_has ls 2 [(0, .ref (q 0)), (1, .int t)] := hl
  have hI0 := hI
  refine lv_aload_n hx hb dX1_sleep_0 rfl (lv_at hl 0 rfl) ?_
  refine lv_aload_n hx hb dX1_sleep_1 rfl (lv_at hl 0 rfl) ?_
  refine lv_iload_n hx hb dX1_sleep_2 rfl (lv_at hl 1 rfl) ?_
  refine cl_RI (k_X1_noTask l E q hq hT hC σ hI t ) gw_X1_134 hd_X1_noTask ⟨rfl, rfl⟩ S0 hK hP (rest := [.ref (q 0)]) rfl hl.1 (Nat.le_of_ble_eq_true rfl) ⟨(Nat.le_of_ble_eq_true rfl), (Nat.le_of_ble_eq_true rfl)⟩ ⟨Nat.zero_le _, Nat.zero_le _⟩ dX1_sleep_3 (fun hex => ?_)
  refine lv_aload_n hx hb dX1_sleep_6 rfl (lv_at hl 0 rfl) ?_
  refine lv_iload_n hx hb dX1_sleep_7 rfl (lv_at hl 1 rfl) ?_
  refine cl_RI (k_X1_noTask l E q hq hT hC σ hI t ) gw_X1_134 hd_X1_noTask ⟨rfl, rfl⟩ S0 hK hP (rest := [.int (f_X1_noTask T C σ t), .ref (q 0)]) rfl hl.1 (Nat.le_of_ble_eq_true rfl) ⟨(Nat.le_of_ble_eq_true rfl), (Nat.le_of_ble_eq_true rfl)⟩ ⟨Nat.zero_le _, Nat.zero_le _⟩ dX1_sleep_8 (fun hex => ?_)
  refine cutG (fun ls H locs st => ∃ y0 : Int32, y0 = (if (f_X1_noTask T C σ t) = 0 then (if (f_X1_isRunnable T C σ t) = 0 then 1 else 0) else 0) ∧ st = [.int y0, .int (f_X1_noTask T C σ t), .ref (q 0)] ∧ lv_has ls 2 [(0, .ref (q 0)), (1, .int t)] ∧ PP 1 E q σ H ∧ va_S (Aq q) s.heap H locs ∧ Inv T C σ) 27 (fun ls H locs st hKp => ?_) (fun K11 => ?_)
  · revert hKp
    refine ex_eq (fun hKp => ?_)
    obtain ⟨rfl, hl, hP, hS, hI⟩ := hKp
    refine cl_WI (k_X1_isRefused l E q hq hT hC σ hI (f_X1_noTask T C σ t) (if (f_X1_noTask T C σ t) = 0 then (if (f_X1_isRunnable T C σ t) = 0 then 1 else 0) else 0) ) gw_X1_78 hd_X1_isRefused ⟨rfl, rfl⟩ S0 hK hP hS (rest := []) rfl hl.1 (Nat.le_of_ble_eq_true rfl) ⟨(Nat.le_of_ble_eq_true rfl), (Nat.le_of_ble_eq_true rfl)⟩ ⟨Nat.zero_le _, Nat.zero_le _⟩ dX1_sleep_27 (fun H locs hP hS hex => ?_)
    obtain ⟨hI, -⟩ := hex
    refine lv_if_eq (tgt := 35) hx hb dX1_sleep_30 (by decide) (fun h30 => ?_) (fun h30 => ?_)
    · skip
      refine lv_aload_n hx hb dX1_sleep_35 rfl (lv_at hl 0 rfl) ?_
      refine lv_iload_n hx hb dX1_sleep_36 rfl (lv_at hl 1 rfl) ?_
      refine lv_iconst (v := 2) hx hb dX1_sleep_37 (by decide) ?_
      refine cl_WI (k_X1_becomes l E q hq hT hC (g_X1_isRefused T C σ (f_X1_noTask T C σ t) (if (f_X1_noTask T C σ t) = 0 then (if (f_X1_isRunnable T C σ t) = 0 then 1 else 0) else 0)) hI t 2 (inT hI0 hT (ref0 h30).1)) gw_X1_137 hd_X1_becomes ⟨rfl, rfl⟩ S0 hK hP hS (rest := []) rfl hl.1 (Nat.le_of_ble_eq_true rfl) ⟨(Nat.le_of_ble_eq_true rfl), (Nat.le_of_ble_eq_true rfl)⟩ ⟨Nat.zero_le _, Nat.zero_le _⟩ dX1_sleep_38 (fun H locs hP hS hex => ?_)
      obtain ⟨hI, -⟩ := hex
      exact rt_WI hQ hx hb hr hlocks (Eq.subst (motive := fun z => PP 1 E q z H) (show (g_X1_becomes T C (g_X1_isRefused T C σ (f_X1_noTask T C σ t) (if (f_X1_noTask T C σ t) = 0 then (if (f_X1_isRunnable T C σ t) = 0 then 1 else 0) else 0)) t 2) = (g_X1_sleep T C σ t) from (Eq.symm (if_pos h30))) hP) hS ⟨(Eq.symm (if_pos h30)), ⟨Eq.subst (motive := fun z => Inv T C z) (show (g_X1_becomes T C (g_X1_isRefused T C σ (f_X1_noTask T C σ t) (if (f_X1_noTask T C σ t) = 0 then (if (f_X1_isRunnable T C σ t) = 0 then 1 else 0) else 0)) t 2) = (g_X1_sleep T C σ t) from (Eq.symm (if_pos h30))) hI, trivial⟩⟩ dX1_sleep_41
    · skip
      refine lv_iconst (v := 0) hx hb dX1_sleep_33 (by decide) ?_
      exact rt_WI hQ hx hb hr hlocks (Eq.subst (motive := fun z => PP 1 E q z H) (show (g_X1_isRefused T C σ (f_X1_noTask T C σ t) (if (f_X1_noTask T C σ t) = 0 then (if (f_X1_isRunnable T C σ t) = 0 then 1 else 0) else 0)) = (g_X1_sleep T C σ t) from (Eq.symm (if_neg h30))) hP) hS ⟨(Eq.symm (if_neg h30)), ⟨Eq.subst (motive := fun z => Inv T C z) (show (g_X1_isRefused T C σ (f_X1_noTask T C σ t) (if (f_X1_noTask T C σ t) = 0 then (if (f_X1_isRunnable T C σ t) = 0 then 1 else 0) else 0)) = (g_X1_sleep T C σ t) from (Eq.symm (if_neg h30))) hI, trivial⟩⟩ dX1_sleep_34
  · refine lv_if_ne (tgt := 26) hx hb dX1_sleep_11 (by decide) (fun h11 => ?_) (fun h11 => ?_)
    · skip
      refine lv_iconst (v := 0) hx hb dX1_sleep_26 (by decide) ?_
      exact K11 _ _ _ _ ⟨0, (Eq.symm (if_neg h11)), rfl, lv_sub hl [0, 1] rfl, hP, hS, hI⟩
    · skip
      refine lv_aload_n hx hb dX1_sleep_14 rfl (lv_at hl 0 rfl) ?_
      refine lv_iload_n hx hb dX1_sleep_15 rfl (lv_at hl 1 rfl) ?_
      refine cl_RI (k_X1_isRunnable l E q hq hT hC σ hI t (inT hI0 hT h11)) gw_X1_86 hd_X1_isRunnable ⟨rfl, rfl⟩ S0 hK hP (rest := [.int (f_X1_noTask T C σ t), .ref (q 0)]) rfl hl.1 (Nat.le_of_ble_eq_true rfl) ⟨(Nat.le_of_ble_eq_true rfl), (Nat.le_of_ble_eq_true rfl)⟩ ⟨Nat.zero_le _, Nat.zero_le _⟩ dX1_sleep_16 (fun hex => ?_)
      refine lv_if_ne (tgt := 26) hx hb dX1_sleep_19 (by decide) (fun h19 => ?_) (fun h19 => ?_)
      · skip
        refine lv_iconst (v := 0) hx hb dX1_sleep_26 (by decide) ?_
        exact K11 _ _ _ _ ⟨0, (Eq.symm (Eq.trans (if_pos h11) (if_neg h19))), rfl, lv_sub hl [0, 1] rfl, hP, hS, hI⟩
      · skip
        refine lv_iconst (v := 1) hx hb dX1_sleep_22 (by decide) ?_
        refine lv_goto (tgt := 27) hx hb dX1_sleep_23 (by decide) ?_
        exact K11 _ _ _ _ ⟨1, (Eq.symm (Eq.trans (if_pos h11) (if_pos h19))), rfl, lv_sub hl [0, 1] rfl, hP, hS, hI⟩
def f_X1_exit (T C : Nat) (σ : St) (t : Int32) : Int32 := (if (f_X1_isRefused T C σ (f_X1_noTask T C σ t) (f_X1_hasExited T C σ t)) = 0 then (f_X1_becomes T C (g_X1_isRefused T C σ (f_X1_noTask T C σ t) (f_X1_hasExited T C σ t)) t 3) else 0)
def g_X1_exit (T C : Nat) (σ : St) (t : Int32) : St := (if (f_X1_isRefused T C σ (f_X1_noTask T C σ t) (f_X1_hasExited T C σ t)) = 0 then (g_X1_becomes T C (g_X1_isRefused T C σ (f_X1_noTask T C σ t) (f_X1_hasExited T C σ t)) t 3) else (g_X1_isRefused T C σ (f_X1_noTask T C σ t) (f_X1_hasExited T C σ t)))
def rm_X1_exit : Room := { frames := 3, cells := 0, slots := 0, locals := 67 }
set_option maxHeartbeats 1600000 in
set_option maxRecDepth 100000 in
theorem k_X1_exit (l : Launch) (E : Ev) (q : Nat → Nat) (hq : Dq q) {T C : Nat} (hT : T ≤ 16) (hC : 1 ≤ C ∧ C ≤ 4) (σ : St) (hI : Inv T C σ) (t : Int32) : WI l 1 E q σ yX1_exit cX1_exit 2 (some .int) rm_X1_exit [.int t] (f_X1_exit T C σ t) (g_X1_exit T C σ t) (Inv T C (g_X1_exit T C σ t) ∧ True) := by
  refine Met.ofB (by decide) (Nat.le_of_ble_eq_true rfl) (fun p e s m args below meth c ls Q B hQ hPK hl => ?_)
  obtain ⟨hx, hb, hml, hr, hlocks, hown, hts⟩ := B
  have S0 : Fx p m c cX1_exit 2 s args RX1 := ⟨hx, hb, hml, hown, hts⟩
  obtain ⟨hP, hK⟩ := hPK
  suffices KH : ∀ (H : Heap) (locs : List Loc), PP 1 E q σ H → va_S (Aq q) s.heap H locs → W p l e rm_X1_exit s m args below meth c H locs 0 0 Q (F0 m 0 ls []) from KH s.heap [] hP va_S.rf
  intro H locs hP hS
  have hl : lv_has ls 2 [(0, .ref (q 0)), (1, .int t)] := hl
  have hI0 := hI
  refine lv_aload_n hx hb dX1_exit_0 rfl (lv_at hl 0 rfl) ?_
  refine lv_aload_n hx hb dX1_exit_1 rfl (lv_at hl 0 rfl) ?_
  refine lv_iload_n hx hb dX1_exit_2 rfl (lv_at hl 1 rfl) ?_
  refine cl_RI (k_X1_noTask l E q hq hT hC σ hI t ) gw_X1_134 hd_X1_noTask ⟨rfl, rfl⟩ S0 hK hP (rest := [.ref (q 0)]) rfl hl.1 (Nat.le_of_ble_eq_true rfl) ⟨(Nat.le_of_ble_eq_true rfl), (Nat.le_of_ble_eq_true rfl)⟩ ⟨Nat.zero_le _, Nat.zero_le _⟩ dX1_exit_3 (fun hex => ?_)
  refine lv_aload_n hx hb dX1_exit_6 rfl (lv_at hl 0 rfl) ?_
  refine lv_iload_n hx hb dX1_exit_7 rfl (lv_at hl 1 rfl) ?_
  refine cl_RI (k_X1_hasExited l E q hq hT hC σ hI t ) gw_X1_140 hd_X1_hasExited ⟨rfl, rfl⟩ S0 hK hP (rest := [.int (f_X1_noTask T C σ t), .ref (q 0)]) rfl hl.1 (Nat.le_of_ble_eq_true rfl) ⟨(Nat.le_of_ble_eq_true rfl), (Nat.le_of_ble_eq_true rfl)⟩ ⟨Nat.zero_le _, Nat.zero_le _⟩ dX1_exit_8 (fun hex => ?_)
  refine cl_WI (k_X1_isRefused l E q hq hT hC σ hI (f_X1_noTask T C σ t) (f_X1_hasExited T C σ t) ) gw_X1_78 hd_X1_isRefused ⟨rfl, rfl⟩ S0 hK hP hS (rest := []) rfl hl.1 (Nat.le_of_ble_eq_true rfl) ⟨(Nat.le_of_ble_eq_true rfl), (Nat.le_of_ble_eq_true rfl)⟩ ⟨Nat.zero_le _, Nat.zero_le _⟩ dX1_exit_11 (fun H locs hP hS hex => ?_)
  obtain ⟨hI, -⟩ := hex
  refine lv_if_eq (tgt := 19) hx hb dX1_exit_14 (by decide) (fun h14 => ?_) (fun h14 => ?_)
  · skip
    refine lv_aload_n hx hb dX1_exit_19 rfl (lv_at hl 0 rfl) ?_
    refine lv_iload_n hx hb dX1_exit_20 rfl (lv_at hl 1 rfl) ?_
    refine lv_iconst (v := 3) hx hb dX1_exit_21 (by decide) ?_
    refine cl_WI (k_X1_becomes l E q hq hT hC (g_X1_isRefused T C σ (f_X1_noTask T C σ t) (f_X1_hasExited T C σ t)) hI t 3 (inT hI0 hT (ref0 h14).1)) gw_X1_137 hd_X1_becomes ⟨rfl, rfl⟩ S0 hK hP hS (rest := []) rfl hl.1 (Nat.le_of_ble_eq_true rfl) ⟨(Nat.le_of_ble_eq_true rfl), (Nat.le_of_ble_eq_true rfl)⟩ ⟨Nat.zero_le _, Nat.zero_le _⟩ dX1_exit_22 (fun H locs hP hS hex => ?_)
    obtain ⟨hI, -⟩ := hex
    exact rt_WI hQ hx hb hr hlocks (Eq.subst (motive := fun z => PP 1 E q z H) (show (g_X1_becomes T C (g_X1_isRefused T C σ (f_X1_noTask T C σ t) (f_X1_hasExited T C σ t)) t 3) = (g_X1_exit T C σ t) from (Eq.symm (if_pos h14))) hP) hS ⟨(Eq.symm (if_pos h14)), ⟨Eq.subst (motive := fun z => Inv T C z) (show (g_X1_becomes T C (g_X1_isRefused T C σ (f_X1_noTask T C σ t) (f_X1_hasExited T C σ t)) t 3) = (g_X1_exit T C σ t) from (Eq.symm (if_pos h14))) hI, trivial⟩⟩ dX1_exit_25
  · skip
    refine lv_iconst (v := 0) hx hb dX1_exit_17 (by decide) ?_
    exact rt_WI hQ hx hb hr hlocks (Eq.subst (motive := fun z => PP 1 E q z H) (show (g_X1_isRefused T C σ (f_X1_noTask T C σ t) (f_X1_hasExited T C σ t)) = (g_X1_exit T C σ t) from (Eq.symm (if_neg h14))) hP) hS ⟨(Eq.symm (if_neg h14)), ⟨Eq.subst (motive := fun z => Inv T C z) (show (g_X1_isRefused T C σ (f_X1_noTask T C σ t) (f_X1_hasExited T C σ t)) = (g_X1_exit T C σ t) from (Eq.symm (if_neg h14))) hI, trivial⟩⟩ dX1_exit_18
def f_X1_stateOf (T C : Nat) (σ : St) (t : Int32) : Int32 := (if (f_X1_isRefused T C σ (f_X1_noTask T C σ t) 0) = 0 then ((g_X1_isRefused T C σ (f_X1_noTask T C σ t) 0).1 3 (ix t)) else 0)
def g_X1_stateOf (T C : Nat) (σ : St) (t : Int32) : St := (g_X1_isRefused T C σ (f_X1_noTask T C σ t) 0)
def rm_X1_stateOf : Room := { frames := 2, cells := 0, slots := 0, locals := 46 }
set_option maxHeartbeats 1600000 in
set_option maxRecDepth 100000 in
theorem k_X1_stateOf (l : Launch) (E : Ev) (q : Nat → Nat) (hq : Dq q) {T C : Nat} (hT : T ≤ 16) (hC : 1 ≤ C ∧ C ≤ 4) (σ : St) (hI : Inv T C σ) (t : Int32) : WI l 1 E q σ yX1_stateOf cX1_stateOf 2 (some .int) rm_X1_stateOf [.int t] (f_X1_stateOf T C σ t) (g_X1_stateOf T C σ t) (Inv T C (g_X1_stateOf T C σ t) ∧ True) := by
  refine Met.ofB (by decide) (Nat.le_of_ble_eq_true rfl) (fun p e s m args below meth c ls Q B hQ hPK hl => ?_)
  obtain ⟨hx, hb, hml, hr, hlocks, hown, hts⟩ := B
  have S0 : Fx p m c cX1_stateOf 2 s args RX1 := ⟨hx, hb, hml, hown, hts⟩
  obtain ⟨hP, hK⟩ := hPK
  suffices KH : ∀ (H : Heap) (locs : List Loc), PP 1 E q σ H → va_S (Aq q) s.heap H locs → W p l e rm_X1_stateOf s m args below meth c H locs 0 0 Q (F0 m 0 ls []) from KH s.heap [] hP va_S.rf
  intro H locs hP hS
  have hl : lv_has ls 2 [(0, .ref (q 0)), (1, .int t)] := hl
  have hI0 := hI
  refine lv_aload_n hx hb dX1_stateOf_0 rfl (lv_at hl 0 rfl) ?_
  refine lv_aload_n hx hb dX1_stateOf_1 rfl (lv_at hl 0 rfl) ?_
  refine lv_iload_n hx hb dX1_stateOf_2 rfl (lv_at hl 1 rfl) ?_
  refine cl_RI (k_X1_noTask l E q hq hT hC σ hI t ) gw_X1_134 hd_X1_noTask ⟨rfl, rfl⟩ S0 hK hP (rest := [.ref (q 0)]) rfl hl.1 (Nat.le_of_ble_eq_true rfl) ⟨(Nat.le_of_ble_eq_true rfl), (Nat.le_of_ble_eq_true rfl)⟩ ⟨Nat.zero_le _, Nat.zero_le _⟩ dX1_stateOf_3 (fun hex => ?_)
  refine lv_iconst (v := 0) hx hb dX1_stateOf_6 (by decide) ?_
  refine cl_WI (k_X1_isRefused l E q hq hT hC σ hI (f_X1_noTask T C σ t) 0 ) gw_X1_78 hd_X1_isRefused ⟨rfl, rfl⟩ S0 hK hP hS (rest := []) rfl hl.1 (Nat.le_of_ble_eq_true rfl) ⟨(Nat.le_of_ble_eq_true rfl), (Nat.le_of_ble_eq_true rfl)⟩ ⟨Nat.zero_le _, Nat.zero_le _⟩ dX1_stateOf_7 (fun H locs hP hS hex => ?_)
  obtain ⟨hI, -⟩ := hex
  refine cutG (fun ls H locs st => ∃ y0 : Int32, y0 = (if (f_X1_isRefused T C σ (f_X1_noTask T C σ t) 0) = 0 then ((g_X1_isRefused T C σ (f_X1_noTask T C σ t) 0).1 3 (ix t)) else 0) ∧ st = [.int y0] ∧ lv_has ls 2 [(0, .ref (q 0)), (1, .int t)] ∧ PP 1 E q (g_X1_isRefused T C σ (f_X1_noTask T C σ t) 0) H ∧ va_S (Aq q) s.heap H locs ∧ Inv T C (g_X1_isRefused T C σ (f_X1_noTask T C σ t) 0)) 23 (fun ls H locs st hKp => ?_) (fun K10 => ?_)
  · revert hKp
    refine ex_eq (fun hKp => ?_)
    obtain ⟨rfl, hl, hP, hS, hI⟩ := hKp
    exact rt_WI hQ hx hb hr hlocks (Eq.subst (motive := fun z => PP 1 E q z H) (show (g_X1_isRefused T C σ (f_X1_noTask T C σ t) 0) = (g_X1_stateOf T C σ t) from rfl) hP) hS ⟨rfl, ⟨Eq.subst (motive := fun z => Inv T C z) (show (g_X1_isRefused T C σ (f_X1_noTask T C σ t) 0) = (g_X1_stateOf T C σ t) from rfl) hI, trivial⟩⟩ dX1_stateOf_23
  · refine lv_if_eq (tgt := 17) hx hb dX1_stateOf_10 (by decide) (fun h10 => ?_) (fun h10 => ?_)
    · skip
      refine lv_aload_n hx hb dX1_stateOf_17 rfl (lv_at hl 0 rfl) ?_
      refine gf_X1_43 hx hb hts hown hK hP dX1_stateOf_18 ?_
      refine lv_iload_n hx hb dX1_stateOf_21 rfl (lv_at hl 1 rfl) ?_
      refine ld_3 hx hb hK hP (inT hI0 hT (ref0 h10).1) dX1_stateOf_22 ?_
      exact K10 _ _ _ _ ⟨((g_X1_isRefused T C σ (f_X1_noTask T C σ t) 0).1 3 (ix t)), (Eq.symm (if_pos h10)), rfl, lv_sub hl [0, 1] rfl, hP, hS, hI⟩
    · skip
      refine lv_iconst (v := 0) hx hb dX1_stateOf_13 (by decide) ?_
      refine lv_goto (tgt := 23) hx hb dX1_stateOf_14 (by decide) ?_
      exact K10 _ _ _ _ ⟨0, (Eq.symm (if_neg h10)), rfl, lv_sub hl [0, 1] rfl, hP, hS, hI⟩
def f_X1_cpuOf (T C : Nat) (σ : St) (t : Int32) : Int32 := (if (f_X1_isRefused T C σ (f_X1_noTask T C σ t) 0) = 0 then ((g_X1_isRefused T C σ (f_X1_noTask T C σ t) 0).1 0 (ix t)) else 0)
def g_X1_cpuOf (T C : Nat) (σ : St) (t : Int32) : St := (g_X1_isRefused T C σ (f_X1_noTask T C σ t) 0)
def rm_X1_cpuOf : Room := { frames := 2, cells := 0, slots := 0, locals := 46 }
set_option maxHeartbeats 1600000 in
set_option maxRecDepth 100000 in
theorem k_X1_cpuOf (l : Launch) (E : Ev) (q : Nat → Nat) (hq : Dq q) {T C : Nat} (hT : T ≤ 16) (hC : 1 ≤ C ∧ C ≤ 4) (σ : St) (hI : Inv T C σ) (t : Int32) : WI l 1 E q σ yX1_cpuOf cX1_cpuOf 2 (some .int) rm_X1_cpuOf [.int t] (f_X1_cpuOf T C σ t) (g_X1_cpuOf T C σ t) (Inv T C (g_X1_cpuOf T C σ t) ∧ True) := by
  refine Met.ofB (by decide) (Nat.le_of_ble_eq_true rfl) (fun p e s m args below meth c ls Q B hQ hPK hl => ?_)
  obtain ⟨hx, hb, hml, hr, hlocks, hown, hts⟩ := B
  have S0 : Fx p m c cX1_cpuOf 2 s args RX1 := ⟨hx, hb, hml, hown, hts⟩
  obtain ⟨hP, hK⟩ := hPK
  suffices KH : ∀ (H : Heap) (locs : List Loc), PP 1 E q σ H → va_S (Aq q) s.heap H locs → W p l e rm_X1_cpuOf s m args below meth c H locs 0 0 Q (F0 m 0 ls []) from KH s.heap [] hP va_S.rf
  intro H locs hP hS
  have hl : lv_has ls 2 [(0, .ref (q 0)), (1, .int t)] := hl
  have hI0 := hI
  refine lv_aload_n hx hb dX1_cpuOf_0 rfl (lv_at hl 0 rfl) ?_
  refine lv_aload_n hx hb dX1_cpuOf_1 rfl (lv_at hl 0 rfl) ?_
  refine lv_iload_n hx hb dX1_cpuOf_2 rfl (lv_at hl 1 rfl) ?_
  refine cl_RI (k_X1_noTask l E q hq hT hC σ hI t ) gw_X1_134 hd_X1_noTask ⟨rfl, rfl⟩ S0 hK hP (rest := [.ref (q 0)]) rfl hl.1 (Nat.le_of_ble_eq_true rfl) ⟨(Nat.le_of_ble_eq_true rfl), (Nat.le_of_ble_eq_true rfl)⟩ ⟨Nat.zero_le _, Nat.zero_le _⟩ dX1_cpuOf_3 (fun hex => ?_)
  refine lv_iconst (v := 0) hx hb dX1_cpuOf_6 (by decide) ?_
  refine cl_WI (k_X1_isRefused l E q hq hT hC σ hI (f_X1_noTask T C σ t) 0 ) gw_X1_78 hd_X1_isRefused ⟨rfl, rfl⟩ S0 hK hP hS (rest := []) rfl hl.1 (Nat.le_of_ble_eq_true rfl) ⟨(Nat.le_of_ble_eq_true rfl), (Nat.le_of_ble_eq_true rfl)⟩ ⟨Nat.zero_le _, Nat.zero_le _⟩ dX1_cpuOf_7 (fun H locs hP hS hex => ?_)
  obtain ⟨hI, -⟩ := hex
  refine cutG (fun ls H locs st => ∃ y0 : Int32, y0 = (if (f_X1_isRefused T C σ (f_X1_noTask T C σ t) 0) = 0 then ((g_X1_isRefused T C σ (f_X1_noTask T C σ t) 0).1 0 (ix t)) else 0) ∧ st = [.int y0] ∧ lv_has ls 2 [(0, .ref (q 0)), (1, .int t)] ∧ PP 1 E q (g_X1_isRefused T C σ (f_X1_noTask T C σ t) 0) H ∧ va_S (Aq q) s.heap H locs ∧ Inv T C (g_X1_isRefused T C σ (f_X1_noTask T C σ t) 0)) 23 (fun ls H locs st hKp => ?_) (fun K10 => ?_)
  · revert hKp
    refine ex_eq (fun hKp => ?_)
    obtain ⟨rfl, hl, hP, hS, hI⟩ := hKp
    exact rt_WI hQ hx hb hr hlocks (Eq.subst (motive := fun z => PP 1 E q z H) (show (g_X1_isRefused T C σ (f_X1_noTask T C σ t) 0) = (g_X1_cpuOf T C σ t) from rfl) hP) hS ⟨rfl, ⟨Eq.subst (motive := fun z => Inv T C z) (show (g_X1_isRefused T C σ (f_X1_noTask T C σ t) 0) = (g_X1_cpuOf T C σ t) from rfl) hI, trivial⟩⟩ dX1_cpuOf_23
  · refine lv_if_eq (tgt := 17) hx hb dX1_cpuOf_10 (by decide) (fun h10 => ?_) (fun h10 => ?_)
    · skip
      refine lv_aload_n hx hb dX1_cpuOf_17 rfl (lv_at hl 0 rfl) ?_
      refine gf_X1_34 hx hb hts hown hK hP dX1_cpuOf_18 ?_
      refine lv_iload_n hx hb dX1_cpuOf_21 rfl (lv_at hl 1 rfl) ?_
      refine ld_0 hx hb hK hP (inT hI0 hT (ref0 h10).1) dX1_cpuOf_22 ?_
      exact K10 _ _ _ _ ⟨((g_X1_isRefused T C σ (f_X1_noTask T C σ t) 0).1 0 (ix t)), (Eq.symm (if_pos h10)), rfl, lv_sub hl [0, 1] rfl, hP, hS, hI⟩
    · skip
      refine lv_iconst (v := 0) hx hb dX1_cpuOf_13 (by decide) ?_
      refine lv_goto (tgt := 23) hx hb dX1_cpuOf_14 (by decide) ?_
      exact K10 _ _ _ _ ⟨0, (Eq.symm (if_neg h10)), rfl, lv_sub hl [0, 1] rfl, hP, hS, hI⟩
def f_X1_runTicks (T C : Nat) (σ : St) (t : Int32) : Int32 := (if (f_X1_isRefused T C σ (f_X1_noTask T C σ t) 0) = 0 then ((g_X1_isRefused T C σ (f_X1_noTask T C σ t) 0).1 5 (ix t)) else 0)
def g_X1_runTicks (T C : Nat) (σ : St) (t : Int32) : St := (g_X1_isRefused T C σ (f_X1_noTask T C σ t) 0)
def rm_X1_runTicks : Room := { frames := 2, cells := 0, slots := 0, locals := 46 }
set_option maxHeartbeats 1600000 in
set_option maxRecDepth 100000 in
theorem k_X1_runTicks (l : Launch) (E : Ev) (q : Nat → Nat) (hq : Dq q) {T C : Nat} (hT : T ≤ 16) (hC : 1 ≤ C ∧ C ≤ 4) (σ : St) (hI : Inv T C σ) (t : Int32) : WI l 1 E q σ yX1_runTicks cX1_runTicks 2 (some .int) rm_X1_runTicks [.int t] (f_X1_runTicks T C σ t) (g_X1_runTicks T C σ t) (Inv T C (g_X1_runTicks T C σ t) ∧ True) := by
  refine Met.ofB (by decide) (Nat.le_of_ble_eq_true rfl) (fun p e s m args below meth c ls Q B hQ hPK hl => ?_)
  obtain ⟨hx, hb, hml, hr, hlocks, hown, hts⟩ := B
  have S0 : Fx p m c cX1_runTicks 2 s args RX1 := ⟨hx, hb, hml, hown, hts⟩
  obtain ⟨hP, hK⟩ := hPK
  suffices KH : ∀ (H : Heap) (locs : List Loc), PP 1 E q σ H → va_S (Aq q) s.heap H locs → W p l e rm_X1_runTicks s m args below meth c H locs 0 0 Q (F0 m 0 ls []) from KH s.heap [] hP va_S.rf
  intro H locs hP hS
  have hl : lv_has ls 2 [(0, .ref (q 0)), (1, .int t)] := hl
  have hI0 := hI
  refine lv_aload_n hx hb dX1_runTicks_0 rfl (lv_at hl 0 rfl) ?_
  refine lv_aload_n hx hb dX1_runTicks_1 rfl (lv_at hl 0 rfl) ?_
  refine lv_iload_n hx hb dX1_runTicks_2 rfl (lv_at hl 1 rfl) ?_
  refine cl_RI (k_X1_noTask l E q hq hT hC σ hI t ) gw_X1_134 hd_X1_noTask ⟨rfl, rfl⟩ S0 hK hP (rest := [.ref (q 0)]) rfl hl.1 (Nat.le_of_ble_eq_true rfl) ⟨(Nat.le_of_ble_eq_true rfl), (Nat.le_of_ble_eq_true rfl)⟩ ⟨Nat.zero_le _, Nat.zero_le _⟩ dX1_runTicks_3 (fun hex => ?_)
  refine lv_iconst (v := 0) hx hb dX1_runTicks_6 (by decide) ?_
  refine cl_WI (k_X1_isRefused l E q hq hT hC σ hI (f_X1_noTask T C σ t) 0 ) gw_X1_78 hd_X1_isRefused ⟨rfl, rfl⟩ S0 hK hP hS (rest := []) rfl hl.1 (Nat.le_of_ble_eq_true rfl) ⟨(Nat.le_of_ble_eq_true rfl), (Nat.le_of_ble_eq_true rfl)⟩ ⟨Nat.zero_le _, Nat.zero_le _⟩ dX1_runTicks_7 (fun H locs hP hS hex => ?_)
  obtain ⟨hI, -⟩ := hex
  refine cutG (fun ls H locs st => ∃ y0 : Int32, y0 = (if (f_X1_isRefused T C σ (f_X1_noTask T C σ t) 0) = 0 then ((g_X1_isRefused T C σ (f_X1_noTask T C σ t) 0).1 5 (ix t)) else 0) ∧ st = [.int y0] ∧ lv_has ls 2 [(0, .ref (q 0)), (1, .int t)] ∧ PP 1 E q (g_X1_isRefused T C σ (f_X1_noTask T C σ t) 0) H ∧ va_S (Aq q) s.heap H locs ∧ Inv T C (g_X1_isRefused T C σ (f_X1_noTask T C σ t) 0)) 23 (fun ls H locs st hKp => ?_) (fun K10 => ?_)
  · revert hKp
    refine ex_eq (fun hKp => ?_)
    obtain ⟨rfl, hl, hP, hS, hI⟩ := hKp
    exact rt_WI hQ hx hb hr hlocks (Eq.subst (motive := fun z => PP 1 E q z H) (show (g_X1_isRefused T C σ (f_X1_noTask T C σ t) 0) = (g_X1_runTicks T C σ t) from rfl) hP) hS ⟨rfl, ⟨Eq.subst (motive := fun z => Inv T C z) (show (g_X1_isRefused T C σ (f_X1_noTask T C σ t) 0) = (g_X1_runTicks T C σ t) from rfl) hI, trivial⟩⟩ dX1_runTicks_23
  · refine lv_if_eq (tgt := 17) hx hb dX1_runTicks_10 (by decide) (fun h10 => ?_) (fun h10 => ?_)
    · skip
      refine lv_aload_n hx hb dX1_runTicks_17 rfl (lv_at hl 0 rfl) ?_
      refine gf_X1_49 hx hb hts hown hK hP dX1_runTicks_18 ?_
      refine lv_iload_n hx hb dX1_runTicks_21 rfl (lv_at hl 1 rfl) ?_
      refine ld_5 hx hb hK hP (inT hI0 hT (ref0 h10).1) dX1_runTicks_22 ?_
      exact K10 _ _ _ _ ⟨((g_X1_isRefused T C σ (f_X1_noTask T C σ t) 0).1 5 (ix t)), (Eq.symm (if_pos h10)), rfl, lv_sub hl [0, 1] rfl, hP, hS, hI⟩
    · skip
      refine lv_iconst (v := 0) hx hb dX1_runTicks_13 (by decide) ?_
      refine lv_goto (tgt := 23) hx hb dX1_runTicks_14 (by decide) ?_
      exact K10 _ _ _ _ ⟨0, (Eq.symm (if_neg h10)), rfl, lv_sub hl [0, 1] rfl, hP, hS, hI⟩
def f_X1_waitTicks (T C : Nat) (σ : St) (t : Int32) : Int32 := (if (f_X1_isRefused T C σ (f_X1_noTask T C σ t) 0) = 0 then ((g_X1_isRefused T C σ (f_X1_noTask T C σ t) 0).1 6 (ix t)) else 0)
def g_X1_waitTicks (T C : Nat) (σ : St) (t : Int32) : St := (g_X1_isRefused T C σ (f_X1_noTask T C σ t) 0)
def rm_X1_waitTicks : Room := { frames := 2, cells := 0, slots := 0, locals := 46 }
set_option maxHeartbeats 1600000 in
set_option maxRecDepth 100000 in
theorem k_X1_waitTicks (l : Launch) (E : Ev) (q : Nat → Nat) (hq : Dq q) {T C : Nat} (hT : T ≤ 16) (hC : 1 ≤ C ∧ C ≤ 4) (σ : St) (hI : Inv T C σ) (t : Int32) : WI l 1 E q σ yX1_waitTicks cX1_waitTicks 2 (some .int) rm_X1_waitTicks [.int t] (f_X1_waitTicks T C σ t) (g_X1_waitTicks T C σ t) (Inv T C (g_X1_waitTicks T C σ t) ∧ True) := by
  refine Met.ofB (by decide) (Nat.le_of_ble_eq_true rfl) (fun p e s m args below meth c ls Q B hQ hPK hl => ?_)
  obtain ⟨hx, hb, hml, hr, hlocks, hown, hts⟩ := B
  have S0 : Fx p m c cX1_waitTicks 2 s args RX1 := ⟨hx, hb, hml, hown, hts⟩
  obtain ⟨hP, hK⟩ := hPK
  suffices KH : ∀ (H : Heap) (locs : List Loc), PP 1 E q σ H → va_S (Aq q) s.heap H locs → W p l e rm_X1_waitTicks s m args below meth c H locs 0 0 Q (F0 m 0 ls []) from KH s.heap [] hP va_S.rf
  intro H locs hP hS
  have hl : lv_has ls 2 [(0, .ref (q 0)), (1, .int t)] := hl
  have hI0 := hI
  refine lv_aload_n hx hb dX1_waitTicks_0 rfl (lv_at hl 0 rfl) ?_
  refine lv_aload_n hx hb dX1_waitTicks_1 rfl (lv_at hl 0 rfl) ?_
  refine lv_iload_n hx hb dX1_waitTicks_2 rfl (lv_at hl 1 rfl) ?_
  refine cl_RI (k_X1_noTask l E q hq hT hC σ hI t ) gw_X1_134 hd_X1_noTask ⟨rfl, rfl⟩ S0 hK hP (rest := [.ref (q 0)]) rfl hl.1 (Nat.le_of_ble_eq_true rfl) ⟨(Nat.le_of_ble_eq_true rfl), (Nat.le_of_ble_eq_true rfl)⟩ ⟨Nat.zero_le _, Nat.zero_le _⟩ dX1_waitTicks_3 (fun hex => ?_)
  refine lv_iconst (v := 0) hx hb dX1_waitTicks_6 (by decide) ?_
  refine cl_WI (k_X1_isRefused l E q hq hT hC σ hI (f_X1_noTask T C σ t) 0 ) gw_X1_78 hd_X1_isRefused ⟨rfl, rfl⟩ S0 hK hP hS (rest := []) rfl hl.1 (Nat.le_of_ble_eq_true rfl) ⟨(Nat.le_of_ble_eq_true rfl), (Nat.le_of_ble_eq_true rfl)⟩ ⟨Nat.zero_le _, Nat.zero_le _⟩ dX1_waitTicks_7 (fun H locs hP hS hex => ?_)
  obtain ⟨hI, -⟩ := hex
  refine cutG (fun ls H locs st => ∃ y0 : Int32, y0 = (if (f_X1_isRefused T C σ (f_X1_noTask T C σ t) 0) = 0 then ((g_X1_isRefused T C σ (f_X1_noTask T C σ t) 0).1 6 (ix t)) else 0) ∧ st = [.int y0] ∧ lv_has ls 2 [(0, .ref (q 0)), (1, .int t)] ∧ PP 1 E q (g_X1_isRefused T C σ (f_X1_noTask T C σ t) 0) H ∧ va_S (Aq q) s.heap H locs ∧ Inv T C (g_X1_isRefused T C σ (f_X1_noTask T C σ t) 0)) 23 (fun ls H locs st hKp => ?_) (fun K10 => ?_)
  · revert hKp
    refine ex_eq (fun hKp => ?_)
    obtain ⟨rfl, hl, hP, hS, hI⟩ := hKp
    exact rt_WI hQ hx hb hr hlocks (Eq.subst (motive := fun z => PP 1 E q z H) (show (g_X1_isRefused T C σ (f_X1_noTask T C σ t) 0) = (g_X1_waitTicks T C σ t) from rfl) hP) hS ⟨rfl, ⟨Eq.subst (motive := fun z => Inv T C z) (show (g_X1_isRefused T C σ (f_X1_noTask T C σ t) 0) = (g_X1_waitTicks T C σ t) from rfl) hI, trivial⟩⟩ dX1_waitTicks_23
  · refine lv_if_eq (tgt := 17) hx hb dX1_waitTicks_10 (by decide) (fun h10 => ?_) (fun h10 => ?_)
    · skip
      refine lv_aload_n hx hb dX1_waitTicks_17 rfl (lv_at hl 0 rfl) ?_
      refine gf_X1_52 hx hb hts hown hK hP dX1_waitTicks_18 ?_
      refine lv_iload_n hx hb dX1_waitTicks_21 rfl (lv_at hl 1 rfl) ?_
      refine ld_6 hx hb hK hP (inT hI0 hT (ref0 h10).1) dX1_waitTicks_22 ?_
      exact K10 _ _ _ _ ⟨((g_X1_isRefused T C σ (f_X1_noTask T C σ t) 0).1 6 (ix t)), (Eq.symm (if_pos h10)), rfl, lv_sub hl [0, 1] rfl, hP, hS, hI⟩
    · skip
      refine lv_iconst (v := 0) hx hb dX1_waitTicks_13 (by decide) ?_
      refine lv_goto (tgt := 23) hx hb dX1_waitTicks_14 (by decide) ?_
      exact K10 _ _ _ _ ⟨0, (Eq.symm (if_neg h10)), rfl, lv_sub hl [0, 1] rfl, hP, hS, hI⟩
def f_X1_wake (T C : Nat) (σ : St) (t : Int32) : Int64 := (if (f_X1_isRefused T C σ (f_X1_noTask T C σ t) (if (f_X1_noTask T C σ t) = 0 then (if (σ.1 3 (ix t)) = 2 then 0 else 1) else 0)) = 0 then ((sJ (sI (g_X1_isRefused T C σ (f_X1_noTask T C σ t) (if (f_X1_noTask T C σ t) = 0 then (if (σ.1 3 (ix t)) = 2 then 0 else 1) else 0)) 3 (ix t) 0) 4 (ix t) (if (lg_cmp ((sI (g_X1_isRefused T C σ (f_X1_noTask T C σ t) (if (f_X1_noTask T C σ t) = 0 then (if (σ.1 3 (ix t)) = 2 then 0 else 1) else 0)) 3 (ix t) 0).2.1 4 (ix t)) ((sI (g_X1_isRefused T C σ (f_X1_noTask T C σ t) (if (f_X1_noTask T C σ t) = 0 then (if (σ.1 3 (ix t)) = 2 then 0 else 1) else 0)) 3 (ix t) 0).2.1 7 (ix ((sI (g_X1_isRefused T C σ (f_X1_noTask T C σ t) (if (f_X1_noTask T C σ t) = 0 then (if (σ.1 3 (ix t)) = 2 then 0 else 1) else 0)) 3 (ix t) 0).1 0 (ix t))))) ≤ 0 then ((sI (g_X1_isRefused T C σ (f_X1_noTask T C σ t) (if (f_X1_noTask T C σ t) = 0 then (if (σ.1 3 (ix t)) = 2 then 0 else 1) else 0)) 3 (ix t) 0).2.1 7 (ix ((sI (g_X1_isRefused T C σ (f_X1_noTask T C σ t) (if (f_X1_noTask T C σ t) = 0 then (if (σ.1 3 (ix t)) = 2 then 0 else 1) else 0)) 3 (ix t) 0).1 0 (ix t)))) else ((sI (g_X1_isRefused T C σ (f_X1_noTask T C σ t) (if (f_X1_noTask T C σ t) = 0 then (if (σ.1 3 (ix t)) = 2 then 0 else 1) else 0)) 3 (ix t) 0).2.1 4 (ix t)))).2.1 4 (ix t)) else 0)
def g_X1_wake (T C : Nat) (σ : St) (t : Int32) : St := (if (f_X1_isRefused T C σ (f_X1_noTask T C σ t) (if (f_X1_noTask T C σ t) = 0 then (if (σ.1 3 (ix t)) = 2 then 0 else 1) else 0)) = 0 then (sJ (sI (g_X1_isRefused T C σ (f_X1_noTask T C σ t) (if (f_X1_noTask T C σ t) = 0 then (if (σ.1 3 (ix t)) = 2 then 0 else 1) else 0)) 3 (ix t) 0) 4 (ix t) (if (lg_cmp ((sI (g_X1_isRefused T C σ (f_X1_noTask T C σ t) (if (f_X1_noTask T C σ t) = 0 then (if (σ.1 3 (ix t)) = 2 then 0 else 1) else 0)) 3 (ix t) 0).2.1 4 (ix t)) ((sI (g_X1_isRefused T C σ (f_X1_noTask T C σ t) (if (f_X1_noTask T C σ t) = 0 then (if (σ.1 3 (ix t)) = 2 then 0 else 1) else 0)) 3 (ix t) 0).2.1 7 (ix ((sI (g_X1_isRefused T C σ (f_X1_noTask T C σ t) (if (f_X1_noTask T C σ t) = 0 then (if (σ.1 3 (ix t)) = 2 then 0 else 1) else 0)) 3 (ix t) 0).1 0 (ix t))))) ≤ 0 then ((sI (g_X1_isRefused T C σ (f_X1_noTask T C σ t) (if (f_X1_noTask T C σ t) = 0 then (if (σ.1 3 (ix t)) = 2 then 0 else 1) else 0)) 3 (ix t) 0).2.1 7 (ix ((sI (g_X1_isRefused T C σ (f_X1_noTask T C σ t) (if (f_X1_noTask T C σ t) = 0 then (if (σ.1 3 (ix t)) = 2 then 0 else 1) else 0)) 3 (ix t) 0).1 0 (ix t)))) else ((sI (g_X1_isRefused T C σ (f_X1_noTask T C σ t) (if (f_X1_noTask T C σ t) = 0 then (if (σ.1 3 (ix t)) = 2 then 0 else 1) else 0)) 3 (ix t) 0).2.1 4 (ix t)))) else (g_X1_isRefused T C σ (f_X1_noTask T C σ t) (if (f_X1_noTask T C σ t) = 0 then (if (σ.1 3 (ix t)) = 2 then 0 else 1) else 0)))
def rm_X1_wake : Room := { frames := 2, cells := 0, slots := 0, locals := 46 }
set_option maxHeartbeats 1600000 in
set_option maxRecDepth 100000 in
theorem k_X1_wake (l : Launch) (E : Ev) (q : Nat → Nat) (hq : Dq q) {T C : Nat} (hT : T ≤ 16) (hC : 1 ≤ C ∧ C ≤ 4) (σ : St) (hI : Inv T C σ) (t : Int32) : WJ l 1 E q σ yX1_wake cX1_wake 2 (some .long) rm_X1_wake [.int t] (f_X1_wake T C σ t) (g_X1_wake T C σ t) (Inv T C (g_X1_wake T C σ t) ∧ True) := by
  refine Met.ofB (by decide) (Nat.le_of_ble_eq_true rfl) (fun p e s m args below meth c ls Q B hQ hPK hl => ?_)
  obtain ⟨hx, hb, hml, hr, hlocks, hown, hts⟩ := B
  have S0 : Fx p m c cX1_wake 2 s args RX1 := ⟨hx, hb, hml, hown, hts⟩
  obtain ⟨hP, hK⟩ := hPK
  suffices KH : ∀ (H : Heap) (locs : List Loc), PP 1 E q σ H → va_S (Aq q) s.heap H locs → W p l e rm_X1_wake s m args below meth c H locs 0 0 Q (F0 m 0 ls []) from KH s.heap [] hP va_S.rf
  intro H locs hP hS
  have hl : lv_has ls 2 [(0, .ref (q 0)), (1, .int t)] := hl
  have hI0 := hI
  refine lv_aload_n hx hb dX1_wake_0 rfl (lv_at hl 0 rfl) ?_
  refine lv_aload_n hx hb dX1_wake_1 rfl (lv_at hl 0 rfl) ?_
  refine lv_iload_n hx hb dX1_wake_2 rfl (lv_at hl 1 rfl) ?_
  refine cl_RI (k_X1_noTask l E q hq hT hC σ hI t ) gw_X1_134 hd_X1_noTask ⟨rfl, rfl⟩ S0 hK hP (rest := [.ref (q 0)]) rfl hl.1 (Nat.le_of_ble_eq_true rfl) ⟨(Nat.le_of_ble_eq_true rfl), (Nat.le_of_ble_eq_true rfl)⟩ ⟨Nat.zero_le _, Nat.zero_le _⟩ dX1_wake_3 (fun hex => ?_)
  refine lv_aload_n hx hb dX1_wake_6 rfl (lv_at hl 0 rfl) ?_
  refine lv_iload_n hx hb dX1_wake_7 rfl (lv_at hl 1 rfl) ?_
  refine cl_RI (k_X1_noTask l E q hq hT hC σ hI t ) gw_X1_134 hd_X1_noTask ⟨rfl, rfl⟩ S0 hK hP (rest := [.int (f_X1_noTask T C σ t), .ref (q 0)]) rfl hl.1 (Nat.le_of_ble_eq_true rfl) ⟨(Nat.le_of_ble_eq_true rfl), (Nat.le_of_ble_eq_true rfl)⟩ ⟨Nat.zero_le _, Nat.zero_le _⟩ dX1_wake_8 (fun hex => ?_)
  refine cutG (fun ls H locs st => ∃ y0 : Int32, y0 = (if (f_X1_noTask T C σ t) = 0 then (if (σ.1 3 (ix t)) = 2 then 0 else 1) else 0) ∧ st = [.int y0, .int (f_X1_noTask T C σ t), .ref (q 0)] ∧ lv_has ls 2 [(0, .ref (q 0)), (1, .int t)] ∧ PP 1 E q σ H ∧ va_S (Aq q) s.heap H locs ∧ Inv T C σ) 29 (fun ls H locs st hKp => ?_) (fun K11 => ?_)
  · revert hKp
    refine ex_eq (fun hKp => ?_)
    obtain ⟨rfl, hl, hP, hS, hI⟩ := hKp
    refine cl_WI (k_X1_isRefused l E q hq hT hC σ hI (f_X1_noTask T C σ t) (if (f_X1_noTask T C σ t) = 0 then (if (σ.1 3 (ix t)) = 2 then 0 else 1) else 0) ) gw_X1_78 hd_X1_isRefused ⟨rfl, rfl⟩ S0 hK hP hS (rest := []) rfl hl.1 (Nat.le_of_ble_eq_true rfl) ⟨(Nat.le_of_ble_eq_true rfl), (Nat.le_of_ble_eq_true rfl)⟩ ⟨Nat.zero_le _, Nat.zero_le _⟩ dX1_wake_29 (fun H locs hP hS hex => ?_)
    obtain ⟨hI, -⟩ := hex
    refine lv_if_eq (tgt := 37) hx hb dX1_wake_32 (by decide) (fun h32 => ?_) (fun h32 => ?_)
    · skip
      refine lv_aload_n hx hb dX1_wake_37 rfl (lv_at hl 0 rfl) ?_
      refine gf_X1_43 hx hb hts hown hK hP dX1_wake_38 ?_
      refine lv_iload_n hx hb dX1_wake_41 rfl (lv_at hl 1 rfl) ?_
      refine lv_iconst (v := 0) hx hb dX1_wake_42 (by decide) ?_
      refine st_3 hx hb hK hq hP hS (inT hI0 hT (ref0 h32).1) dX1_wake_43 (fun H locs hP hS => ?_)
      have hI : Inv T C (sI (g_X1_isRefused T C σ (f_X1_noTask T C σ t) (if (f_X1_noTask T C σ t) = 0 then (if (σ.1 3 (ix t)) = 2 then 0 else 1) else 0)) 3 (ix t) 0) := inv_sI (by decide) hI
      refine lv_aload_n hx hb dX1_wake_44 rfl (lv_at hl 0 rfl) ?_
      refine gf_X1_46 hx hb hts hown hK hP dX1_wake_45 ?_
      refine lv_iload_n hx hb dX1_wake_48 rfl (lv_at hl 1 rfl) ?_
      refine lv_aload_n hx hb dX1_wake_49 rfl (lv_at hl 0 rfl) ?_
      refine gf_X1_46 hx hb hts hown hK hP dX1_wake_50 ?_
      refine lv_iload_n hx hb dX1_wake_53 rfl (lv_at hl 1 rfl) ?_
      refine ld_4 hx hb hK hP (inT hI0 hT (ref0 h32).1) dX1_wake_54 ?_
      refine lv_aload_n hx hb dX1_wake_55 rfl (lv_at hl 0 rfl) ?_
      refine gf_X1_13 hx hb hts hown hK hP dX1_wake_56 ?_
      refine lv_aload_n hx hb dX1_wake_59 rfl (lv_at hl 0 rfl) ?_
      refine gf_X1_34 hx hb hts hown hK hP dX1_wake_60 ?_
      refine lv_iload_n hx hb dX1_wake_63 rfl (lv_at hl 1 rfl) ?_
      refine ld_0 hx hb hK hP (inT hI0 hT (ref0 h32).1) dX1_wake_64 ?_
      refine ld_7 hx hb hK hP (hI.1 _) dX1_wake_65 ?_
      refine W.lcmp hx hb dX1_wake_66 ?_
      refine cutG (fun ls H locs st => ∃ y0 : Int64, y0 = (if (lg_cmp ((sI (g_X1_isRefused T C σ (f_X1_noTask T C σ t) (if (f_X1_noTask T C σ t) = 0 then (if (σ.1 3 (ix t)) = 2 then 0 else 1) else 0)) 3 (ix t) 0).2.1 4 (ix t)) ((sI (g_X1_isRefused T C σ (f_X1_noTask T C σ t) (if (f_X1_noTask T C σ t) = 0 then (if (σ.1 3 (ix t)) = 2 then 0 else 1) else 0)) 3 (ix t) 0).2.1 7 (ix ((sI (g_X1_isRefused T C σ (f_X1_noTask T C σ t) (if (f_X1_noTask T C σ t) = 0 then (if (σ.1 3 (ix t)) = 2 then 0 else 1) else 0)) 3 (ix t) 0).1 0 (ix t))))) ≤ 0 then ((sI (g_X1_isRefused T C σ (f_X1_noTask T C σ t) (if (f_X1_noTask T C σ t) = 0 then (if (σ.1 3 (ix t)) = 2 then 0 else 1) else 0)) 3 (ix t) 0).2.1 7 (ix ((sI (g_X1_isRefused T C σ (f_X1_noTask T C σ t) (if (f_X1_noTask T C σ t) = 0 then (if (σ.1 3 (ix t)) = 2 then 0 else 1) else 0)) 3 (ix t) 0).1 0 (ix t)))) else ((sI (g_X1_isRefused T C σ (f_X1_noTask T C σ t) (if (f_X1_noTask T C σ t) = 0 then (if (σ.1 3 (ix t)) = 2 then 0 else 1) else 0)) 3 (ix t) 0).2.1 4 (ix t))) ∧ st = [.long y0, .int t, .ref (q 5)] ∧ lv_has ls 2 [(0, .ref (q 0)), (1, .int t)] ∧ PP 1 E q (sI (g_X1_isRefused T C σ (f_X1_noTask T C σ t) (if (f_X1_noTask T C σ t) = 0 then (if (σ.1 3 (ix t)) = 2 then 0 else 1) else 0)) 3 (ix t) 0) H ∧ va_S (Aq q) s.heap H locs ∧ Inv T C (sI (g_X1_isRefused T C σ (f_X1_noTask T C σ t) (if (f_X1_noTask T C σ t) = 0 then (if (σ.1 3 (ix t)) = 2 then 0 else 1) else 0)) 3 (ix t) 0)) 90 (fun ls H locs st hKp => ?_) (fun K67 => ?_)
      · revert hKp
        refine ex_eq (fun hKp => ?_)
        obtain ⟨rfl, hl, hP, hS, hI⟩ := hKp
        refine st_4 hx hb hK hq hP hS (inT hI0 hT (ref0 h32).1) dX1_wake_90 (fun H locs hP hS => ?_)
        have hI : Inv T C (sJ (sI (g_X1_isRefused T C σ (f_X1_noTask T C σ t) (if (f_X1_noTask T C σ t) = 0 then (if (σ.1 3 (ix t)) = 2 then 0 else 1) else 0)) 3 (ix t) 0) 4 (ix t) (if (lg_cmp ((sI (g_X1_isRefused T C σ (f_X1_noTask T C σ t) (if (f_X1_noTask T C σ t) = 0 then (if (σ.1 3 (ix t)) = 2 then 0 else 1) else 0)) 3 (ix t) 0).2.1 4 (ix t)) ((sI (g_X1_isRefused T C σ (f_X1_noTask T C σ t) (if (f_X1_noTask T C σ t) = 0 then (if (σ.1 3 (ix t)) = 2 then 0 else 1) else 0)) 3 (ix t) 0).2.1 7 (ix ((sI (g_X1_isRefused T C σ (f_X1_noTask T C σ t) (if (f_X1_noTask T C σ t) = 0 then (if (σ.1 3 (ix t)) = 2 then 0 else 1) else 0)) 3 (ix t) 0).1 0 (ix t))))) ≤ 0 then ((sI (g_X1_isRefused T C σ (f_X1_noTask T C σ t) (if (f_X1_noTask T C σ t) = 0 then (if (σ.1 3 (ix t)) = 2 then 0 else 1) else 0)) 3 (ix t) 0).2.1 7 (ix ((sI (g_X1_isRefused T C σ (f_X1_noTask T C σ t) (if (f_X1_noTask T C σ t) = 0 then (if (σ.1 3 (ix t)) = 2 then 0 else 1) else 0)) 3 (ix t) 0).1 0 (ix t)))) else ((sI (g_X1_isRefused T C σ (f_X1_noTask T C σ t) (if (f_X1_noTask T C σ t) = 0 then (if (σ.1 3 (ix t)) = 2 then 0 else 1) else 0)) 3 (ix t) 0).2.1 4 (ix t)))) := inv_sJ hI
        refine lv_aload_n hx hb dX1_wake_91 rfl (lv_at hl 0 rfl) ?_
        refine gf_X1_46 hx hb hts hown hK hP dX1_wake_92 ?_
        refine lv_iload_n hx hb dX1_wake_95 rfl (lv_at hl 1 rfl) ?_
        refine ld_4 hx hb hK hP (inT hI0 hT (ref0 h32).1) dX1_wake_96 ?_
        exact rt_WJ hQ hx hb hr hlocks (Eq.subst (motive := fun z => PP 1 E q z H) (show (sJ (sI (g_X1_isRefused T C σ (f_X1_noTask T C σ t) (if (f_X1_noTask T C σ t) = 0 then (if (σ.1 3 (ix t)) = 2 then 0 else 1) else 0)) 3 (ix t) 0) 4 (ix t) (if (lg_cmp ((sI (g_X1_isRefused T C σ (f_X1_noTask T C σ t) (if (f_X1_noTask T C σ t) = 0 then (if (σ.1 3 (ix t)) = 2 then 0 else 1) else 0)) 3 (ix t) 0).2.1 4 (ix t)) ((sI (g_X1_isRefused T C σ (f_X1_noTask T C σ t) (if (f_X1_noTask T C σ t) = 0 then (if (σ.1 3 (ix t)) = 2 then 0 else 1) else 0)) 3 (ix t) 0).2.1 7 (ix ((sI (g_X1_isRefused T C σ (f_X1_noTask T C σ t) (if (f_X1_noTask T C σ t) = 0 then (if (σ.1 3 (ix t)) = 2 then 0 else 1) else 0)) 3 (ix t) 0).1 0 (ix t))))) ≤ 0 then ((sI (g_X1_isRefused T C σ (f_X1_noTask T C σ t) (if (f_X1_noTask T C σ t) = 0 then (if (σ.1 3 (ix t)) = 2 then 0 else 1) else 0)) 3 (ix t) 0).2.1 7 (ix ((sI (g_X1_isRefused T C σ (f_X1_noTask T C σ t) (if (f_X1_noTask T C σ t) = 0 then (if (σ.1 3 (ix t)) = 2 then 0 else 1) else 0)) 3 (ix t) 0).1 0 (ix t)))) else ((sI (g_X1_isRefused T C σ (f_X1_noTask T C σ t) (if (f_X1_noTask T C σ t) = 0 then (if (σ.1 3 (ix t)) = 2 then 0 else 1) else 0)) 3 (ix t) 0).2.1 4 (ix t)))) = (g_X1_wake T C σ t) from (Eq.symm (if_pos h32))) hP) hS ⟨(Eq.symm (if_pos h32)), ⟨Eq.subst (motive := fun z => Inv T C z) (show (sJ (sI (g_X1_isRefused T C σ (f_X1_noTask T C σ t) (if (f_X1_noTask T C σ t) = 0 then (if (σ.1 3 (ix t)) = 2 then 0 else 1) else 0)) 3 (ix t) 0) 4 (ix t) (if (lg_cmp ((sI (g_X1_isRefused T C σ (f_X1_noTask T C σ t) (if (f_X1_noTask T C σ t) = 0 then (if (σ.1 3 (ix t)) = 2 then 0 else 1) else 0)) 3 (ix t) 0).2.1 4 (ix t)) ((sI (g_X1_isRefused T C σ (f_X1_noTask T C σ t) (if (f_X1_noTask T C σ t) = 0 then (if (σ.1 3 (ix t)) = 2 then 0 else 1) else 0)) 3 (ix t) 0).2.1 7 (ix ((sI (g_X1_isRefused T C σ (f_X1_noTask T C σ t) (if (f_X1_noTask T C σ t) = 0 then (if (σ.1 3 (ix t)) = 2 then 0 else 1) else 0)) 3 (ix t) 0).1 0 (ix t))))) ≤ 0 then ((sI (g_X1_isRefused T C σ (f_X1_noTask T C σ t) (if (f_X1_noTask T C σ t) = 0 then (if (σ.1 3 (ix t)) = 2 then 0 else 1) else 0)) 3 (ix t) 0).2.1 7 (ix ((sI (g_X1_isRefused T C σ (f_X1_noTask T C σ t) (if (f_X1_noTask T C σ t) = 0 then (if (σ.1 3 (ix t)) = 2 then 0 else 1) else 0)) 3 (ix t) 0).1 0 (ix t)))) else ((sI (g_X1_isRefused T C σ (f_X1_noTask T C σ t) (if (f_X1_noTask T C σ t) = 0 then (if (σ.1 3 (ix t)) = 2 then 0 else 1) else 0)) 3 (ix t) 0).2.1 4 (ix t)))) = (g_X1_wake T C σ t) from (Eq.symm (if_pos h32))) hI, trivial⟩⟩ dX1_wake_97
      · refine lv_if_le (tgt := 79) hx hb dX1_wake_67 (by decide) (fun h67 => ?_) (fun h67 => ?_)
        · skip
          refine lv_aload_n hx hb dX1_wake_79 rfl (lv_at hl 0 rfl) ?_
          refine gf_X1_13 hx hb hts hown hK hP dX1_wake_80 ?_
          refine lv_aload_n hx hb dX1_wake_83 rfl (lv_at hl 0 rfl) ?_
          refine gf_X1_34 hx hb hts hown hK hP dX1_wake_84 ?_
          refine lv_iload_n hx hb dX1_wake_87 rfl (lv_at hl 1 rfl) ?_
          refine ld_0 hx hb hK hP (inT hI0 hT (ref0 h32).1) dX1_wake_88 ?_
          refine ld_7 hx hb hK hP (hI.1 _) dX1_wake_89 ?_
          exact K67 _ _ _ _ ⟨((sI (g_X1_isRefused T C σ (f_X1_noTask T C σ t) (if (f_X1_noTask T C σ t) = 0 then (if (σ.1 3 (ix t)) = 2 then 0 else 1) else 0)) 3 (ix t) 0).2.1 7 (ix ((sI (g_X1_isRefused T C σ (f_X1_noTask T C σ t) (if (f_X1_noTask T C σ t) = 0 then (if (σ.1 3 (ix t)) = 2 then 0 else 1) else 0)) 3 (ix t) 0).1 0 (ix t)))), (Eq.symm (if_pos h67)), rfl, lv_sub hl [0, 1] rfl, hP, hS, hI⟩
        · skip
          refine lv_aload_n hx hb dX1_wake_70 rfl (lv_at hl 0 rfl) ?_
          refine gf_X1_46 hx hb hts hown hK hP dX1_wake_71 ?_
          refine lv_iload_n hx hb dX1_wake_74 rfl (lv_at hl 1 rfl) ?_
          refine ld_4 hx hb hK hP (inT hI0 hT (ref0 h32).1) dX1_wake_75 ?_
          refine lv_goto (tgt := 90) hx hb dX1_wake_76 (by decide) ?_
          exact K67 _ _ _ _ ⟨((sI (g_X1_isRefused T C σ (f_X1_noTask T C σ t) (if (f_X1_noTask T C σ t) = 0 then (if (σ.1 3 (ix t)) = 2 then 0 else 1) else 0)) 3 (ix t) 0).2.1 4 (ix t)), (Eq.symm (if_neg h67)), rfl, lv_sub hl [0, 1] rfl, hP, hS, hI⟩
    · skip
      refine lv_lconst (v := 0) hx hb dX1_wake_35 (by decide) ?_
      exact rt_WJ hQ hx hb hr hlocks (Eq.subst (motive := fun z => PP 1 E q z H) (show (g_X1_isRefused T C σ (f_X1_noTask T C σ t) (if (f_X1_noTask T C σ t) = 0 then (if (σ.1 3 (ix t)) = 2 then 0 else 1) else 0)) = (g_X1_wake T C σ t) from (Eq.symm (if_neg h32))) hP) hS ⟨(Eq.symm (if_neg h32)), ⟨Eq.subst (motive := fun z => Inv T C z) (show (g_X1_isRefused T C σ (f_X1_noTask T C σ t) (if (f_X1_noTask T C σ t) = 0 then (if (σ.1 3 (ix t)) = 2 then 0 else 1) else 0)) = (g_X1_wake T C σ t) from (Eq.symm (if_neg h32))) hI, trivial⟩⟩ dX1_wake_36
  · refine lv_if_ne (tgt := 28) hx hb dX1_wake_11 (by decide) (fun h11 => ?_) (fun h11 => ?_)
    · skip
      refine lv_iconst (v := 0) hx hb dX1_wake_28 (by decide) ?_
      exact K11 _ _ _ _ ⟨0, (Eq.symm (if_neg h11)), rfl, lv_sub hl [0, 1] rfl, hP, hS, hI⟩
    · skip
      refine lv_aload_n hx hb dX1_wake_14 rfl (lv_at hl 0 rfl) ?_
      refine gf_X1_43 hx hb hts hown hK hP dX1_wake_15 ?_
      refine lv_iload_n hx hb dX1_wake_18 rfl (lv_at hl 1 rfl) ?_
      refine ld_3 hx hb hK hP (inT hI0 hT h11) dX1_wake_19 ?_
      refine lv_iconst (v := 2) hx hb dX1_wake_20 (by decide) ?_
      refine lv_icmp_eq (tgt := 28) hx hb dX1_wake_21 (by decide) (fun h21 => ?_) (fun h21 => ?_)
      · skip
        refine lv_iconst (v := 0) hx hb dX1_wake_28 (by decide) ?_
        exact K11 _ _ _ _ ⟨0, (Eq.symm (Eq.trans (if_pos h11) (if_pos h21))), rfl, lv_sub hl [0, 1] rfl, hP, hS, hI⟩
      · skip
        refine lv_iconst (v := 1) hx hb dX1_wake_24 (by decide) ?_
        refine lv_goto (tgt := 29) hx hb dX1_wake_25 (by decide) ?_
        exact K11 _ _ _ _ ⟨1, (Eq.symm (Eq.trans (if_pos h11) (if_neg h21))), rfl, lv_sub hl [0, 1] rfl, hP, hS, hI⟩
def f_X1_virtualTime (T C : Nat) (σ : St) (t : Int32) : Int64 := (if (f_X1_isRefused T C σ (f_X1_noTask T C σ t) 0) = 0 then ((g_X1_isRefused T C σ (f_X1_noTask T C σ t) 0).2.1 4 (ix t)) else 0)
def g_X1_virtualTime (T C : Nat) (σ : St) (t : Int32) : St := (g_X1_isRefused T C σ (f_X1_noTask T C σ t) 0)
def rm_X1_virtualTime : Room := { frames := 2, cells := 0, slots := 0, locals := 46 }
set_option maxHeartbeats 1600000 in
set_option maxRecDepth 100000 in
theorem k_X1_virtualTime (l : Launch) (E : Ev) (q : Nat → Nat) (hq : Dq q) {T C : Nat} (hT : T ≤ 16) (hC : 1 ≤ C ∧ C ≤ 4) (σ : St) (hI : Inv T C σ) (t : Int32) : WJ l 1 E q σ yX1_virtualTime cX1_virtualTime 2 (some .long) rm_X1_virtualTime [.int t] (f_X1_virtualTime T C σ t) (g_X1_virtualTime T C σ t) (Inv T C (g_X1_virtualTime T C σ t) ∧ True) := by
  refine Met.ofB (by decide) (Nat.le_of_ble_eq_true rfl) (fun p e s m args below meth c ls Q B hQ hPK hl => ?_)
  obtain ⟨hx, hb, hml, hr, hlocks, hown, hts⟩ := B
  have S0 : Fx p m c cX1_virtualTime 2 s args RX1 := ⟨hx, hb, hml, hown, hts⟩
  obtain ⟨hP, hK⟩ := hPK
  suffices KH : ∀ (H : Heap) (locs : List Loc), PP 1 E q σ H → va_S (Aq q) s.heap H locs → W p l e rm_X1_virtualTime s m args below meth c H locs 0 0 Q (F0 m 0 ls []) from KH s.heap [] hP va_S.rf
  intro H locs hP hS
  have hl : lv_has ls 2 [(0, .ref (q 0)), (1, .int t)] := hl
  have hI0 := hI
  refine lv_aload_n hx hb dX1_virtualTime_0 rfl (lv_at hl 0 rfl) ?_
  refine lv_aload_n hx hb dX1_virtualTime_1 rfl (lv_at hl 0 rfl) ?_
  refine lv_iload_n hx hb dX1_virtualTime_2 rfl (lv_at hl 1 rfl) ?_
  refine cl_RI (k_X1_noTask l E q hq hT hC σ hI t ) gw_X1_134 hd_X1_noTask ⟨rfl, rfl⟩ S0 hK hP (rest := [.ref (q 0)]) rfl hl.1 (Nat.le_of_ble_eq_true rfl) ⟨(Nat.le_of_ble_eq_true rfl), (Nat.le_of_ble_eq_true rfl)⟩ ⟨Nat.zero_le _, Nat.zero_le _⟩ dX1_virtualTime_3 (fun hex => ?_)
  refine lv_iconst (v := 0) hx hb dX1_virtualTime_6 (by decide) ?_
  refine cl_WI (k_X1_isRefused l E q hq hT hC σ hI (f_X1_noTask T C σ t) 0 ) gw_X1_78 hd_X1_isRefused ⟨rfl, rfl⟩ S0 hK hP hS (rest := []) rfl hl.1 (Nat.le_of_ble_eq_true rfl) ⟨(Nat.le_of_ble_eq_true rfl), (Nat.le_of_ble_eq_true rfl)⟩ ⟨Nat.zero_le _, Nat.zero_le _⟩ dX1_virtualTime_7 (fun H locs hP hS hex => ?_)
  obtain ⟨hI, -⟩ := hex
  refine cutG (fun ls H locs st => ∃ y0 : Int64, y0 = (if (f_X1_isRefused T C σ (f_X1_noTask T C σ t) 0) = 0 then ((g_X1_isRefused T C σ (f_X1_noTask T C σ t) 0).2.1 4 (ix t)) else 0) ∧ st = [.long y0] ∧ lv_has ls 2 [(0, .ref (q 0)), (1, .int t)] ∧ PP 1 E q (g_X1_isRefused T C σ (f_X1_noTask T C σ t) 0) H ∧ va_S (Aq q) s.heap H locs ∧ Inv T C (g_X1_isRefused T C σ (f_X1_noTask T C σ t) 0)) 23 (fun ls H locs st hKp => ?_) (fun K10 => ?_)
  · revert hKp
    refine ex_eq (fun hKp => ?_)
    obtain ⟨rfl, hl, hP, hS, hI⟩ := hKp
    exact rt_WJ hQ hx hb hr hlocks (Eq.subst (motive := fun z => PP 1 E q z H) (show (g_X1_isRefused T C σ (f_X1_noTask T C σ t) 0) = (g_X1_virtualTime T C σ t) from rfl) hP) hS ⟨rfl, ⟨Eq.subst (motive := fun z => Inv T C z) (show (g_X1_isRefused T C σ (f_X1_noTask T C σ t) 0) = (g_X1_virtualTime T C σ t) from rfl) hI, trivial⟩⟩ dX1_virtualTime_23
  · refine lv_if_eq (tgt := 17) hx hb dX1_virtualTime_10 (by decide) (fun h10 => ?_) (fun h10 => ?_)
    · skip
      refine lv_aload_n hx hb dX1_virtualTime_17 rfl (lv_at hl 0 rfl) ?_
      refine gf_X1_46 hx hb hts hown hK hP dX1_virtualTime_18 ?_
      refine lv_iload_n hx hb dX1_virtualTime_21 rfl (lv_at hl 1 rfl) ?_
      refine ld_4 hx hb hK hP (inT hI0 hT (ref0 h10).1) dX1_virtualTime_22 ?_
      exact K10 _ _ _ _ ⟨((g_X1_isRefused T C σ (f_X1_noTask T C σ t) 0).2.1 4 (ix t)), (Eq.symm (if_pos h10)), rfl, lv_sub hl [0, 1] rfl, hP, hS, hI⟩
    · skip
      refine lv_lconst (v := 0) hx hb dX1_virtualTime_13 (by decide) ?_
      refine lv_goto (tgt := 23) hx hb dX1_virtualTime_14 (by decide) ?_
      exact K10 _ _ _ _ ⟨0, (Eq.symm (if_neg h10)), rfl, lv_sub hl [0, 1] rfl, hP, hS, hI⟩
def f_X1_setWeight (T C : Nat) (σ : St) (t : Int32) (w9 : Int32) : Int32 := (if (f_X1_isRefused T C σ (if (f_X1_noTask T C σ t) = 0 then (if (f_X1_noWeight w9) = 0 then 0 else 1) else 1) (f_X1_hasExited T C σ t)) = 0 then ((g_X1_isRefused T C σ (if (f_X1_noTask T C σ t) = 0 then (if (f_X1_noWeight w9) = 0 then 0 else 1) else 1) (f_X1_hasExited T C σ t)).1 1 (ix t)) else 0)
def g_X1_setWeight (T C : Nat) (σ : St) (t : Int32) (w9 : Int32) : St := (if (f_X1_isRefused T C σ (if (f_X1_noTask T C σ t) = 0 then (if (f_X1_noWeight w9) = 0 then 0 else 1) else 1) (f_X1_hasExited T C σ t)) = 0 then (sI (g_X1_isRefused T C σ (if (f_X1_noTask T C σ t) = 0 then (if (f_X1_noWeight w9) = 0 then 0 else 1) else 1) (f_X1_hasExited T C σ t)) 1 (ix t) w9) else (g_X1_isRefused T C σ (if (f_X1_noTask T C σ t) = 0 then (if (f_X1_noWeight w9) = 0 then 0 else 1) else 1) (f_X1_hasExited T C σ t)))
def rm_X1_setWeight : Room := { frames := 3, cells := 0, slots := 0, locals := 67 }
set_option maxHeartbeats 1600000 in
set_option maxRecDepth 100000 in
theorem k_X1_setWeight (l : Launch) (E : Ev) (q : Nat → Nat) (hq : Dq q) {T C : Nat} (hT : T ≤ 16) (hC : 1 ≤ C ∧ C ≤ 4) (σ : St) (hI : Inv T C σ) (t : Int32) (w9 : Int32) : WI l 1 E q σ yX1_setWeight cX1_setWeight 4 (some .int) rm_X1_setWeight [.int t, .int w9] (f_X1_setWeight T C σ t w9) (g_X1_setWeight T C σ t w9) (Inv T C (g_X1_setWeight T C σ t w9) ∧ True) := by
  refine Met.ofB (by decide) (Nat.le_of_ble_eq_true rfl) (fun p e s m args below meth c ls Q B hQ hPK hl => ?_)
  obtain ⟨hx, hb, hml, hr, hlocks, hown, hts⟩ := B
  have S0 : Fx p m c cX1_setWeight 4 s args RX1 := ⟨hx, hb, hml, hown, hts⟩
  obtain ⟨hP, hK⟩ := hPK
  suffices KH : ∀ (H : Heap) (locs : List Loc), PP 1 E q σ H → va_S (Aq q) s.heap H locs → W p l e rm_X1_setWeight s m args below meth c H locs 0 0 Q (F0 m 0 ls []) from KH s.heap [] hP va_S.rf
  intro H locs hP hS
  have hl : lv_has ls 4 [(0, .ref (q 0)), (1, .int t), (2, .int w9)] := hl
  have hI0 := hI
  refine lv_aload_n hx hb dX1_setWeight_0 rfl (lv_at hl 0 rfl) ?_
  refine lv_aload_n hx hb dX1_setWeight_1 rfl (lv_at hl 0 rfl) ?_
  refine lv_iload_n hx hb dX1_setWeight_2 rfl (lv_at hl 1 rfl) ?_
  refine cl_RI (k_X1_noTask l E q hq hT hC σ hI t ) gw_X1_134 hd_X1_noTask ⟨rfl, rfl⟩ S0 hK hP (rest := [.ref (q 0)]) rfl hl.1 (Nat.le_of_ble_eq_true rfl) ⟨(Nat.le_of_ble_eq_true rfl), (Nat.le_of_ble_eq_true rfl)⟩ ⟨Nat.zero_le _, Nat.zero_le _⟩ dX1_setWeight_3 (fun hex => ?_)
  refine cutG (fun ls H locs st => ∃ y0 : Int32, y0 = (if (f_X1_noTask T C σ t) = 0 then (if (f_X1_noWeight w9) = 0 then 0 else 1) else 1) ∧ st = [.int y0, .ref (q 0)] ∧ lv_has ls 4 [(0, .ref (q 0)), (1, .int t), (2, .int w9)] ∧ PP 1 E q σ H ∧ va_S (Aq q) s.heap H locs ∧ Inv T C σ) 21 (fun ls H locs st hKp => ?_) (fun K6 => ?_)
  · revert hKp
    refine ex_eq (fun hKp => ?_)
    obtain ⟨rfl, hl, hP, hS, hI⟩ := hKp
    refine lv_aload_n hx hb dX1_setWeight_21 rfl (lv_at hl 0 rfl) ?_
    refine lv_iload_n hx hb dX1_setWeight_22 rfl (lv_at hl 1 rfl) ?_
    refine cl_RI (k_X1_hasExited l E q hq hT hC σ hI t ) gw_X1_140 hd_X1_hasExited ⟨rfl, rfl⟩ S0 hK hP (rest := [.int (if (f_X1_noTask T C σ t) = 0 then (if (f_X1_noWeight w9) = 0 then 0 else 1) else 1), .ref (q 0)]) rfl hl.1 (Nat.le_of_ble_eq_true rfl) ⟨(Nat.le_of_ble_eq_true rfl), (Nat.le_of_ble_eq_true rfl)⟩ ⟨Nat.zero_le _, Nat.zero_le _⟩ dX1_setWeight_23 (fun hex => ?_)
    refine cl_WI (k_X1_isRefused l E q hq hT hC σ hI (if (f_X1_noTask T C σ t) = 0 then (if (f_X1_noWeight w9) = 0 then 0 else 1) else 1) (f_X1_hasExited T C σ t) ) gw_X1_78 hd_X1_isRefused ⟨rfl, rfl⟩ S0 hK hP hS (rest := []) rfl hl.1 (Nat.le_of_ble_eq_true rfl) ⟨(Nat.le_of_ble_eq_true rfl), (Nat.le_of_ble_eq_true rfl)⟩ ⟨Nat.zero_le _, Nat.zero_le _⟩ dX1_setWeight_26 (fun H locs hP hS hex => ?_)
    obtain ⟨hI, -⟩ := hex
    refine lv_if_eq (tgt := 34) hx hb dX1_setWeight_29 (by decide) (fun h29 => ?_) (fun h29 => ?_)
    · skip
      refine lv_aload_n hx hb dX1_setWeight_34 rfl (lv_at hl 0 rfl) ?_
      refine gf_X1_37 hx hb hts hown hK hP dX1_setWeight_35 ?_
      refine lv_iload_n hx hb dX1_setWeight_38 rfl (lv_at hl 1 rfl) ?_
      refine ld_1 hx hb hK hP (inT hI0 hT (or0 (ref0 h29).1).1) dX1_setWeight_39 ?_
      refine lv_istore_n (lv' := [(3, .int ((g_X1_isRefused T C σ (if (f_X1_noTask T C σ t) = 0 then (if (f_X1_noWeight w9) = 0 then 0 else 1) else 1) (f_X1_hasExited T C σ t)).1 1 (ix t))), (0, .ref (q 0)), (1, .int t), (2, .int w9)]) hx hb dX1_setWeight_40 rfl hl (by decide) rfl (fun ls hl => ?_)
      refine lv_aload_n hx hb dX1_setWeight_41 rfl (lv_at hl 1 rfl) ?_
      refine gf_X1_37 hx hb hts hown hK hP dX1_setWeight_42 ?_
      refine lv_iload_n hx hb dX1_setWeight_45 rfl (lv_at hl 2 rfl) ?_
      refine lv_iload_n hx hb dX1_setWeight_46 rfl (lv_at hl 3 rfl) ?_
      refine st_1 hx hb hK hq hP hS (inT hI0 hT (or0 (ref0 h29).1).1) dX1_setWeight_47 (fun H locs hP hS => ?_)
      have hI : Inv T C (sI (g_X1_isRefused T C σ (if (f_X1_noTask T C σ t) = 0 then (if (f_X1_noWeight w9) = 0 then 0 else 1) else 1) (f_X1_hasExited T C σ t)) 1 (ix t) w9) := inv_weight (inW (or0 (or0 (ref0 h29).1).2).1) hI
      refine lv_iload_n hx hb dX1_setWeight_48 rfl (lv_at hl 0 rfl) ?_
      exact rt_WI hQ hx hb hr hlocks (Eq.subst (motive := fun z => PP 1 E q z H) (show (sI (g_X1_isRefused T C σ (if (f_X1_noTask T C σ t) = 0 then (if (f_X1_noWeight w9) = 0 then 0 else 1) else 1) (f_X1_hasExited T C σ t)) 1 (ix t) w9) = (g_X1_setWeight T C σ t w9) from (Eq.symm (if_pos h29))) hP) hS ⟨(Eq.symm (if_pos h29)), ⟨Eq.subst (motive := fun z => Inv T C z) (show (sI (g_X1_isRefused T C σ (if (f_X1_noTask T C σ t) = 0 then (if (f_X1_noWeight w9) = 0 then 0 else 1) else 1) (f_X1_hasExited T C σ t)) 1 (ix t) w9) = (g_X1_setWeight T C σ t w9) from (Eq.symm (if_pos h29))) hI, trivial⟩⟩ dX1_setWeight_49
    · skip
      refine lv_iconst (v := 0) hx hb dX1_setWeight_32 (by decide) ?_
      exact rt_WI hQ hx hb hr hlocks (Eq.subst (motive := fun z => PP 1 E q z H) (show (g_X1_isRefused T C σ (if (f_X1_noTask T C σ t) = 0 then (if (f_X1_noWeight w9) = 0 then 0 else 1) else 1) (f_X1_hasExited T C σ t)) = (g_X1_setWeight T C σ t w9) from (Eq.symm (if_neg h29))) hP) hS ⟨(Eq.symm (if_neg h29)), ⟨Eq.subst (motive := fun z => Inv T C z) (show (g_X1_isRefused T C σ (if (f_X1_noTask T C σ t) = 0 then (if (f_X1_noWeight w9) = 0 then 0 else 1) else 1) (f_X1_hasExited T C σ t)) = (g_X1_setWeight T C σ t w9) from (Eq.symm (if_neg h29))) hI, trivial⟩⟩ dX1_setWeight_33
  · refine lv_if_ne (tgt := 16) hx hb dX1_setWeight_6 (by decide) (fun h6 => ?_) (fun h6 => ?_)
    · skip
      refine lv_iconst (v := 1) hx hb dX1_setWeight_16 (by decide) ?_
      refine lv_goto (tgt := 21) hx hb dX1_setWeight_17 (by decide) ?_
      exact K6 _ _ _ _ ⟨1, (Eq.symm (if_neg h6)), rfl, lv_sub hl [0, 1, 2] rfl, hP, hS, hI⟩
    · skip
      refine lv_iload_n hx hb dX1_setWeight_9 rfl (lv_at hl 2 rfl) ?_
      refine cl_NI (k_X1_noWeight l w9) gw_X1_128 hd_X1_noWeight ⟨rfl, rfl⟩ S0 (rest := [.ref (q 0)]) rfl hl.1 (Nat.le_of_ble_eq_true rfl) ⟨(Nat.le_of_ble_eq_true rfl), (Nat.le_of_ble_eq_true rfl)⟩ ⟨Nat.zero_le _, Nat.zero_le _⟩ dX1_setWeight_10 ?_
      refine lv_if_eq (tgt := 20) hx hb dX1_setWeight_13 (by decide) (fun h13 => ?_) (fun h13 => ?_)
      · skip
        refine lv_iconst (v := 0) hx hb dX1_setWeight_20 (by decide) ?_
        exact K6 _ _ _ _ ⟨0, (Eq.symm (Eq.trans (if_pos h6) (if_pos h13))), rfl, lv_sub hl [0, 1, 2] rfl, hP, hS, hI⟩
      · skip
        refine lv_iconst (v := 1) hx hb dX1_setWeight_16 (by decide) ?_
        refine lv_goto (tgt := 21) hx hb dX1_setWeight_17 (by decide) ?_
        exact K6 _ _ _ _ ⟨1, (Eq.symm (Eq.trans (if_pos h6) (if_neg h13))), rfl, lv_sub hl [0, 1, 2] rfl, hP, hS, hI⟩
def f_X1_setCookie (T C : Nat) (σ : St) (t : Int32) (w9 : Int32) : Int32 := (if (f_X1_isRefused T C σ (if (f_X1_noTask T C σ t) = 0 then (if (f_X1_noCookie w9) = 0 then 0 else 1) else 1) (f_X1_hasExited T C σ t)) = 0 then ((g_X1_isRefused T C σ (if (f_X1_noTask T C σ t) = 0 then (if (f_X1_noCookie w9) = 0 then 0 else 1) else 1) (f_X1_hasExited T C σ t)).1 2 (ix t)) else 0)
def g_X1_setCookie (T C : Nat) (σ : St) (t : Int32) (w9 : Int32) : St := (if (f_X1_isRefused T C σ (if (f_X1_noTask T C σ t) = 0 then (if (f_X1_noCookie w9) = 0 then 0 else 1) else 1) (f_X1_hasExited T C σ t)) = 0 then (sI (g_X1_isRefused T C σ (if (f_X1_noTask T C σ t) = 0 then (if (f_X1_noCookie w9) = 0 then 0 else 1) else 1) (f_X1_hasExited T C σ t)) 2 (ix t) w9) else (g_X1_isRefused T C σ (if (f_X1_noTask T C σ t) = 0 then (if (f_X1_noCookie w9) = 0 then 0 else 1) else 1) (f_X1_hasExited T C σ t)))
def rm_X1_setCookie : Room := { frames := 3, cells := 0, slots := 0, locals := 67 }
set_option maxHeartbeats 1600000 in
set_option maxRecDepth 100000 in
theorem k_X1_setCookie (l : Launch) (E : Ev) (q : Nat → Nat) (hq : Dq q) {T C : Nat} (hT : T ≤ 16) (hC : 1 ≤ C ∧ C ≤ 4) (σ : St) (hI : Inv T C σ) (t : Int32) (w9 : Int32) : WI l 1 E q σ yX1_setCookie cX1_setCookie 4 (some .int) rm_X1_setCookie [.int t, .int w9] (f_X1_setCookie T C σ t w9) (g_X1_setCookie T C σ t w9) (Inv T C (g_X1_setCookie T C σ t w9) ∧ True) := by
  refine Met.ofB (by decide) (Nat.le_of_ble_eq_true rfl) (fun p e s m args below meth c ls Q B hQ hPK hl => ?_)
  obtain ⟨hx, hb, hml, hr, hlocks, hown, hts⟩ := B
  have S0 : Fx p m c cX1_setCookie 4 s args RX1 := ⟨hx, hb, hml, hown, hts⟩
  obtain ⟨hP, hK⟩ := hPK
  suffices KH : ∀ (H : Heap) (locs : List Loc), PP 1 E q σ H → va_S (Aq q) s.heap H locs → W p l e rm_X1_setCookie s m args below meth c H locs 0 0 Q (F0 m 0 ls []) from KH s.heap [] hP va_S.rf
  intro H locs hP hS
  have hl : lv_has ls 4 [(0, .ref (q 0)), (1, .int t), (2, .int w9)] := hl
  have hI0 := hI
  refine lv_aload_n hx hb dX1_setCookie_0 rfl (lv_at hl 0 rfl) ?_
  refine lv_aload_n hx hb dX1_setCookie_1 rfl (lv_at hl 0 rfl) ?_
  refine lv_iload_n hx hb dX1_setCookie_2 rfl (lv_at hl 1 rfl) ?_
  refine cl_RI (k_X1_noTask l E q hq hT hC σ hI t ) gw_X1_134 hd_X1_noTask ⟨rfl, rfl⟩ S0 hK hP (rest := [.ref (q 0)]) rfl hl.1 (Nat.le_of_ble_eq_true rfl) ⟨(Nat.le_of_ble_eq_true rfl), (Nat.le_of_ble_eq_true rfl)⟩ ⟨Nat.zero_le _, Nat.zero_le _⟩ dX1_setCookie_3 (fun hex => ?_)
  refine cutG (fun ls H locs st => ∃ y0 : Int32, y0 = (if (f_X1_noTask T C σ t) = 0 then (if (f_X1_noCookie w9) = 0 then 0 else 1) else 1) ∧ st = [.int y0, .ref (q 0)] ∧ lv_has ls 4 [(0, .ref (q 0)), (1, .int t), (2, .int w9)] ∧ PP 1 E q σ H ∧ va_S (Aq q) s.heap H locs ∧ Inv T C σ) 21 (fun ls H locs st hKp => ?_) (fun K6 => ?_)
  · revert hKp
    refine ex_eq (fun hKp => ?_)
    obtain ⟨rfl, hl, hP, hS, hI⟩ := hKp
    refine lv_aload_n hx hb dX1_setCookie_21 rfl (lv_at hl 0 rfl) ?_
    refine lv_iload_n hx hb dX1_setCookie_22 rfl (lv_at hl 1 rfl) ?_
    refine cl_RI (k_X1_hasExited l E q hq hT hC σ hI t ) gw_X1_140 hd_X1_hasExited ⟨rfl, rfl⟩ S0 hK hP (rest := [.int (if (f_X1_noTask T C σ t) = 0 then (if (f_X1_noCookie w9) = 0 then 0 else 1) else 1), .ref (q 0)]) rfl hl.1 (Nat.le_of_ble_eq_true rfl) ⟨(Nat.le_of_ble_eq_true rfl), (Nat.le_of_ble_eq_true rfl)⟩ ⟨Nat.zero_le _, Nat.zero_le _⟩ dX1_setCookie_23 (fun hex => ?_)
    refine cl_WI (k_X1_isRefused l E q hq hT hC σ hI (if (f_X1_noTask T C σ t) = 0 then (if (f_X1_noCookie w9) = 0 then 0 else 1) else 1) (f_X1_hasExited T C σ t) ) gw_X1_78 hd_X1_isRefused ⟨rfl, rfl⟩ S0 hK hP hS (rest := []) rfl hl.1 (Nat.le_of_ble_eq_true rfl) ⟨(Nat.le_of_ble_eq_true rfl), (Nat.le_of_ble_eq_true rfl)⟩ ⟨Nat.zero_le _, Nat.zero_le _⟩ dX1_setCookie_26 (fun H locs hP hS hex => ?_)
    obtain ⟨hI, -⟩ := hex
    refine lv_if_eq (tgt := 34) hx hb dX1_setCookie_29 (by decide) (fun h29 => ?_) (fun h29 => ?_)
    · skip
      refine lv_aload_n hx hb dX1_setCookie_34 rfl (lv_at hl 0 rfl) ?_
      refine gf_X1_40 hx hb hts hown hK hP dX1_setCookie_35 ?_
      refine lv_iload_n hx hb dX1_setCookie_38 rfl (lv_at hl 1 rfl) ?_
      refine ld_2 hx hb hK hP (inT hI0 hT (or0 (ref0 h29).1).1) dX1_setCookie_39 ?_
      refine lv_istore_n (lv' := [(3, .int ((g_X1_isRefused T C σ (if (f_X1_noTask T C σ t) = 0 then (if (f_X1_noCookie w9) = 0 then 0 else 1) else 1) (f_X1_hasExited T C σ t)).1 2 (ix t))), (0, .ref (q 0)), (1, .int t), (2, .int w9)]) hx hb dX1_setCookie_40 rfl hl (by decide) rfl (fun ls hl => ?_)
      refine lv_aload_n hx hb dX1_setCookie_41 rfl (lv_at hl 1 rfl) ?_
      refine gf_X1_40 hx hb hts hown hK hP dX1_setCookie_42 ?_
      refine lv_iload_n hx hb dX1_setCookie_45 rfl (lv_at hl 2 rfl) ?_
      refine lv_iload_n hx hb dX1_setCookie_46 rfl (lv_at hl 3 rfl) ?_
      refine st_2 hx hb hK hq hP hS (inT hI0 hT (or0 (ref0 h29).1).1) dX1_setCookie_47 (fun H locs hP hS => ?_)
      have hI : Inv T C (sI (g_X1_isRefused T C σ (if (f_X1_noTask T C σ t) = 0 then (if (f_X1_noCookie w9) = 0 then 0 else 1) else 1) (f_X1_hasExited T C σ t)) 2 (ix t) w9) := inv_sI (by decide) hI
      refine lv_iload_n hx hb dX1_setCookie_48 rfl (lv_at hl 0 rfl) ?_
      exact rt_WI hQ hx hb hr hlocks (Eq.subst (motive := fun z => PP 1 E q z H) (show (sI (g_X1_isRefused T C σ (if (f_X1_noTask T C σ t) = 0 then (if (f_X1_noCookie w9) = 0 then 0 else 1) else 1) (f_X1_hasExited T C σ t)) 2 (ix t) w9) = (g_X1_setCookie T C σ t w9) from (Eq.symm (if_pos h29))) hP) hS ⟨(Eq.symm (if_pos h29)), ⟨Eq.subst (motive := fun z => Inv T C z) (show (sI (g_X1_isRefused T C σ (if (f_X1_noTask T C σ t) = 0 then (if (f_X1_noCookie w9) = 0 then 0 else 1) else 1) (f_X1_hasExited T C σ t)) 2 (ix t) w9) = (g_X1_setCookie T C σ t w9) from (Eq.symm (if_pos h29))) hI, trivial⟩⟩ dX1_setCookie_49
    · skip
      refine lv_iconst (v := 0) hx hb dX1_setCookie_32 (by decide) ?_
      exact rt_WI hQ hx hb hr hlocks (Eq.subst (motive := fun z => PP 1 E q z H) (show (g_X1_isRefused T C σ (if (f_X1_noTask T C σ t) = 0 then (if (f_X1_noCookie w9) = 0 then 0 else 1) else 1) (f_X1_hasExited T C σ t)) = (g_X1_setCookie T C σ t w9) from (Eq.symm (if_neg h29))) hP) hS ⟨(Eq.symm (if_neg h29)), ⟨Eq.subst (motive := fun z => Inv T C z) (show (g_X1_isRefused T C σ (if (f_X1_noTask T C σ t) = 0 then (if (f_X1_noCookie w9) = 0 then 0 else 1) else 1) (f_X1_hasExited T C σ t)) = (g_X1_setCookie T C σ t w9) from (Eq.symm (if_neg h29))) hI, trivial⟩⟩ dX1_setCookie_33
  · refine lv_if_ne (tgt := 16) hx hb dX1_setCookie_6 (by decide) (fun h6 => ?_) (fun h6 => ?_)
    · skip
      refine lv_iconst (v := 1) hx hb dX1_setCookie_16 (by decide) ?_
      refine lv_goto (tgt := 21) hx hb dX1_setCookie_17 (by decide) ?_
      exact K6 _ _ _ _ ⟨1, (Eq.symm (if_neg h6)), rfl, lv_sub hl [0, 1, 2] rfl, hP, hS, hI⟩
    · skip
      refine lv_iload_n hx hb dX1_setCookie_9 rfl (lv_at hl 2 rfl) ?_
      refine cl_NI (k_X1_noCookie l w9) gw_X1_131 hd_X1_noCookie ⟨rfl, rfl⟩ S0 (rest := [.ref (q 0)]) rfl hl.1 (Nat.le_of_ble_eq_true rfl) ⟨(Nat.le_of_ble_eq_true rfl), (Nat.le_of_ble_eq_true rfl)⟩ ⟨Nat.zero_le _, Nat.zero_le _⟩ dX1_setCookie_10 ?_
      refine lv_if_eq (tgt := 20) hx hb dX1_setCookie_13 (by decide) (fun h13 => ?_) (fun h13 => ?_)
      · skip
        refine lv_iconst (v := 0) hx hb dX1_setCookie_20 (by decide) ?_
        exact K6 _ _ _ _ ⟨0, (Eq.symm (Eq.trans (if_pos h6) (if_pos h13))), rfl, lv_sub hl [0, 1, 2] rfl, hP, hS, hI⟩
      · skip
        refine lv_iconst (v := 1) hx hb dX1_setCookie_16 (by decide) ?_
        refine lv_goto (tgt := 21) hx hb dX1_setCookie_17 (by decide) ?_
        exact K6 _ _ _ _ ⟨1, (Eq.symm (Eq.trans (if_pos h6) (if_neg h13))), rfl, lv_sub hl [0, 1, 2] rfl, hP, hS, hI⟩
def f_X1_moveTask (T C : Nat) (σ : St) (t : Int32) (c9 : Int32) : Int32 := (if (f_X1_isRefused T C σ (if (f_X1_noTask T C σ t) = 0 then (if (f_X1_noCpu T C σ c9) = 0 then 0 else 1) else 1) (if ((if (f_X1_noTask T C σ t) = 0 then (if (f_X1_noCpu T C σ c9) = 0 then 0 else 1) else 1) : Int32) = 0 then (if (σ.1 3 (ix t)) = 1 then 1 else (if (σ.1 3 (ix t)) = 3 then 1 else 0)) else 0)) = 0 then ((g_X1_isRefused T C σ (if (f_X1_noTask T C σ t) = 0 then (if (f_X1_noCpu T C σ c9) = 0 then 0 else 1) else 1) (if ((if (f_X1_noTask T C σ t) = 0 then (if (f_X1_noCpu T C σ c9) = 0 then 0 else 1) else 1) : Int32) = 0 then (if (σ.1 3 (ix t)) = 1 then 1 else (if (σ.1 3 (ix t)) = 3 then 1 else 0)) else 0)).1 0 (ix t)) else 0)
def g_X1_moveTask (T C : Nat) (σ : St) (t : Int32) (c9 : Int32) : St := (if (f_X1_isRefused T C σ (if (f_X1_noTask T C σ t) = 0 then (if (f_X1_noCpu T C σ c9) = 0 then 0 else 1) else 1) (if ((if (f_X1_noTask T C σ t) = 0 then (if (f_X1_noCpu T C σ c9) = 0 then 0 else 1) else 1) : Int32) = 0 then (if (σ.1 3 (ix t)) = 1 then 1 else (if (σ.1 3 (ix t)) = 3 then 1 else 0)) else 0)) = 0 then (if ((g_X1_isRefused T C σ (if (f_X1_noTask T C σ t) = 0 then (if (f_X1_noCpu T C σ c9) = 0 then 0 else 1) else 1) (if ((if (f_X1_noTask T C σ t) = 0 then (if (f_X1_noCpu T C σ c9) = 0 then 0 else 1) else 1) : Int32) = 0 then (if (σ.1 3 (ix t)) = 1 then 1 else (if (σ.1 3 (ix t)) = 3 then 1 else 0)) else 0)).1 3 (ix t)) = 0 then (g_X1_goesTo T C (g_X1_isRefused T C σ (if (f_X1_noTask T C σ t) = 0 then (if (f_X1_noCpu T C σ c9) = 0 then 0 else 1) else 1) (if ((if (f_X1_noTask T C σ t) = 0 then (if (f_X1_noCpu T C σ c9) = 0 then 0 else 1) else 1) : Int32) = 0 then (if (σ.1 3 (ix t)) = 1 then 1 else (if (σ.1 3 (ix t)) = 3 then 1 else 0)) else 0)) t c9) else (sI (g_X1_isRefused T C σ (if (f_X1_noTask T C σ t) = 0 then (if (f_X1_noCpu T C σ c9) = 0 then 0 else 1) else 1) (if ((if (f_X1_noTask T C σ t) = 0 then (if (f_X1_noCpu T C σ c9) = 0 then 0 else 1) else 1) : Int32) = 0 then (if (σ.1 3 (ix t)) = 1 then 1 else (if (σ.1 3 (ix t)) = 3 then 1 else 0)) else 0)) 0 (ix t) c9)) else (g_X1_isRefused T C σ (if (f_X1_noTask T C σ t) = 0 then (if (f_X1_noCpu T C σ c9) = 0 then 0 else 1) else 1) (if ((if (f_X1_noTask T C σ t) = 0 then (if (f_X1_noCpu T C σ c9) = 0 then 0 else 1) else 1) : Int32) = 0 then (if (σ.1 3 (ix t)) = 1 then 1 else (if (σ.1 3 (ix t)) = 3 then 1 else 0)) else 0)))
def rm_X1_moveTask : Room := { frames := 2, cells := 0, slots := 0, locals := 46 }
set_option maxHeartbeats 1600000 in
set_option maxRecDepth 100000 in
theorem k_X1_moveTask (l : Launch) (E : Ev) (q : Nat → Nat) (hq : Dq q) {T C : Nat} (hT : T ≤ 16) (hC : 1 ≤ C ∧ C ≤ 4) (σ : St) (hI : Inv T C σ) (t : Int32) (c9 : Int32) : WI l 1 E q σ yX1_moveTask cX1_moveTask 5 (some .int) rm_X1_moveTask [.int t, .int c9] (f_X1_moveTask T C σ t c9) (g_X1_moveTask T C σ t c9) (Inv T C (g_X1_moveTask T C σ t c9) ∧ True) := by
  refine Met.ofB (by decide) (Nat.le_of_ble_eq_true rfl) (fun p e s m args below meth c ls Q B hQ hPK hl => ?_)
  obtain ⟨hx, hb, hml, hr, hlocks, hown, hts⟩ := B
  have S0 : Fx p m c cX1_moveTask 5 s args RX1 := ⟨hx, hb, hml, hown, hts⟩
  obtain ⟨hP, hK⟩ := hPK
  suffices KH : ∀ (H : Heap) (locs : List Loc), PP 1 E q σ H → va_S (Aq q) s.heap H locs → W p l e rm_X1_moveTask s m args below meth c H locs 0 0 Q (F0 m 0 ls []) from KH s.heap [] hP va_S.rf
  intro H locs hP hS
  have hl : lv_has ls 5 [(0, .ref (q 0)), (1, .int t), (2, .int c9)] := hl
  have hI0 := hI
  refine lv_aload_n hx hb dX1_moveTask_0 rfl (lv_at hl 0 rfl) ?_
  refine lv_iload_n hx hb dX1_moveTask_1 rfl (lv_at hl 1 rfl) ?_
  refine cl_RI (k_X1_noTask l E q hq hT hC σ hI t ) gw_X1_134 hd_X1_noTask ⟨rfl, rfl⟩ S0 hK hP (rest := []) rfl hl.1 (Nat.le_of_ble_eq_true rfl) ⟨(Nat.le_of_ble_eq_true rfl), (Nat.le_of_ble_eq_true rfl)⟩ ⟨Nat.zero_le _, Nat.zero_le _⟩ dX1_moveTask_2 (fun hex => ?_)
  refine cutG (fun ls H locs st => ∃ y0 : Int32, y0 = (if (f_X1_noTask T C σ t) = 0 then (if (f_X1_noCpu T C σ c9) = 0 then 0 else 1) else 1) ∧ st = [.int y0] ∧ lv_has ls 5 [(0, .ref (q 0)), (1, .int t), (2, .int c9)] ∧ PP 1 E q σ H ∧ va_S (Aq q) s.heap H locs ∧ Inv T C σ) 21 (fun ls H locs st hKp => ?_) (fun K5 => ?_)
  · revert hKp
    refine ex_eq (fun hKp => ?_)
    obtain ⟨rfl, hl, hP, hS, hI⟩ := hKp
    refine lv_istore_n (lv' := [(3, .int (if (f_X1_noTask T C σ t) = 0 then (if (f_X1_noCpu T C σ c9) = 0 then 0 else 1) else 1)), (0, .ref (q 0)), (1, .int t), (2, .int c9)]) hx hb dX1_moveTask_21 rfl hl (by decide) rfl (fun ls hl => ?_)
    refine lv_aload_n hx hb dX1_moveTask_22 rfl (lv_at hl 1 rfl) ?_
    refine lv_iload_n hx hb dX1_moveTask_23 rfl (lv_at hl 0 rfl) ?_
    refine lv_iload_n hx hb dX1_moveTask_24 rfl (lv_at hl 0 rfl) ?_
    refine cutG (fun ls H locs st => ∃ y0 : Int32, y0 = (if ((if (f_X1_noTask T C σ t) = 0 then (if (f_X1_noCpu T C σ c9) = 0 then 0 else 1) else 1) : Int32) = 0 then (if (σ.1 3 (ix t)) = 1 then 1 else (if (σ.1 3 (ix t)) = 3 then 1 else 0)) else 0) ∧ st = [.int y0, .int (if (f_X1_noTask T C σ t) = 0 then (if (f_X1_noCpu T C σ c9) = 0 then 0 else 1) else 1), .ref (q 0)] ∧ lv_has ls 5 [(3, .int (if (f_X1_noTask T C σ t) = 0 then (if (f_X1_noCpu T C σ c9) = 0 then 0 else 1) else 1)), (0, .ref (q 0)), (1, .int t), (2, .int c9)] ∧ PP 1 E q σ H ∧ va_S (Aq q) s.heap H locs ∧ Inv T C σ) 53 (fun ls H locs st hKp => ?_) (fun K25 => ?_)
    · revert hKp
      refine ex_eq (fun hKp => ?_)
      obtain ⟨rfl, hl, hP, hS, hI⟩ := hKp
      refine cl_WI (k_X1_isRefused l E q hq hT hC σ hI (if (f_X1_noTask T C σ t) = 0 then (if (f_X1_noCpu T C σ c9) = 0 then 0 else 1) else 1) (if ((if (f_X1_noTask T C σ t) = 0 then (if (f_X1_noCpu T C σ c9) = 0 then 0 else 1) else 1) : Int32) = 0 then (if (σ.1 3 (ix t)) = 1 then 1 else (if (σ.1 3 (ix t)) = 3 then 1 else 0)) else 0) ) gw_X1_78 hd_X1_isRefused ⟨rfl, rfl⟩ S0 hK hP hS (rest := []) rfl hl.1 (Nat.le_of_ble_eq_true rfl) ⟨(Nat.le_of_ble_eq_true rfl), (Nat.le_of_ble_eq_true rfl)⟩ ⟨Nat.zero_le _, Nat.zero_le _⟩ dX1_moveTask_53 (fun H locs hP hS hex => ?_)
      obtain ⟨hI, -⟩ := hex
      refine lv_if_eq (tgt := 61) hx hb dX1_moveTask_56 (by decide) (fun h56 => ?_) (fun h56 => ?_)
      · skip
        refine lv_aload_n hx hb dX1_moveTask_61 rfl (lv_at hl 1 rfl) ?_
        refine gf_X1_34 hx hb hts hown hK hP dX1_moveTask_62 ?_
        refine lv_iload_n hx hb dX1_moveTask_65 rfl (lv_at hl 2 rfl) ?_
        refine ld_0 hx hb hK hP (inT hI0 hT (or0 (ref0 h56).1).1) dX1_moveTask_66 ?_
        refine lv_istore (lv' := [(4, .int ((g_X1_isRefused T C σ (if (f_X1_noTask T C σ t) = 0 then (if (f_X1_noCpu T C σ c9) = 0 then 0 else 1) else 1) (if ((if (f_X1_noTask T C σ t) = 0 then (if (f_X1_noCpu T C σ c9) = 0 then 0 else 1) else 1) : Int32) = 0 then (if (σ.1 3 (ix t)) = 1 then 1 else (if (σ.1 3 (ix t)) = 3 then 1 else 0)) else 0)).1 0 (ix t))), (3, .int (if (f_X1_noTask T C σ t) = 0 then (if (f_X1_noCpu T C σ c9) = 0 then 0 else 1) else 1)), (0, .ref (q 0)), (1, .int t), (2, .int c9)]) hx hb dX1_moveTask_67 hl (by decide) rfl (fun ls hl => ?_)
        refine lv_aload_n hx hb dX1_moveTask_69 rfl (lv_at hl 2 rfl) ?_
        refine gf_X1_43 hx hb hts hown hK hP dX1_moveTask_70 ?_
        refine lv_iload_n hx hb dX1_moveTask_73 rfl (lv_at hl 3 rfl) ?_
        refine ld_3 hx hb hK hP (inT hI0 hT (or0 (ref0 h56).1).1) dX1_moveTask_74 ?_
        refine cutG (fun ls H locs st => ∃ σ9 : St, σ9 = (if ((g_X1_isRefused T C σ (if (f_X1_noTask T C σ t) = 0 then (if (f_X1_noCpu T C σ c9) = 0 then 0 else 1) else 1) (if ((if (f_X1_noTask T C σ t) = 0 then (if (f_X1_noCpu T C σ c9) = 0 then 0 else 1) else 1) : Int32) = 0 then (if (σ.1 3 (ix t)) = 1 then 1 else (if (σ.1 3 (ix t)) = 3 then 1 else 0)) else 0)).1 3 (ix t)) = 0 then (g_X1_goesTo T C (g_X1_isRefused T C σ (if (f_X1_noTask T C σ t) = 0 then (if (f_X1_noCpu T C σ c9) = 0 then 0 else 1) else 1) (if ((if (f_X1_noTask T C σ t) = 0 then (if (f_X1_noCpu T C σ c9) = 0 then 0 else 1) else 1) : Int32) = 0 then (if (σ.1 3 (ix t)) = 1 then 1 else (if (σ.1 3 (ix t)) = 3 then 1 else 0)) else 0)) t c9) else (sI (g_X1_isRefused T C σ (if (f_X1_noTask T C σ t) = 0 then (if (f_X1_noCpu T C σ c9) = 0 then 0 else 1) else 1) (if ((if (f_X1_noTask T C σ t) = 0 then (if (f_X1_noCpu T C σ c9) = 0 then 0 else 1) else 1) : Int32) = 0 then (if (σ.1 3 (ix t)) = 1 then 1 else (if (σ.1 3 (ix t)) = 3 then 1 else 0)) else 0)) 0 (ix t) c9)) ∧ st = [] ∧ lv_has ls 5 [(4, .int ((g_X1_isRefused T C σ (if (f_X1_noTask T C σ t) = 0 then (if (f_X1_noCpu T C σ c9) = 0 then 0 else 1) else 1) (if ((if (f_X1_noTask T C σ t) = 0 then (if (f_X1_noCpu T C σ c9) = 0 then 0 else 1) else 1) : Int32) = 0 then (if (σ.1 3 (ix t)) = 1 then 1 else (if (σ.1 3 (ix t)) = 3 then 1 else 0)) else 0)).1 0 (ix t))), (3, .int (if (f_X1_noTask T C σ t) = 0 then (if (f_X1_noCpu T C σ c9) = 0 then 0 else 1) else 1)), (0, .ref (q 0)), (1, .int t), (2, .int c9)] ∧ PP 1 E q σ9 H ∧ va_S (Aq q) s.heap H locs ∧ Inv T C σ9) 94 (fun ls H locs st hKp => ?_) (fun K75 => ?_)
        · revert hKp
          refine ex_eq (fun hKp => ?_)
          obtain ⟨rfl, hl, hP, hS, hI⟩ := hKp
          refine lv_iload hx hb dX1_moveTask_94 (lv_at hl 0 rfl) ?_
          exact rt_WI hQ hx hb hr hlocks (Eq.subst (motive := fun z => PP 1 E q z H) (show (if ((g_X1_isRefused T C σ (if (f_X1_noTask T C σ t) = 0 then (if (f_X1_noCpu T C σ c9) = 0 then 0 else 1) else 1) (if ((if (f_X1_noTask T C σ t) = 0 then (if (f_X1_noCpu T C σ c9) = 0 then 0 else 1) else 1) : Int32) = 0 then (if (σ.1 3 (ix t)) = 1 then 1 else (if (σ.1 3 (ix t)) = 3 then 1 else 0)) else 0)).1 3 (ix t)) = 0 then (g_X1_goesTo T C (g_X1_isRefused T C σ (if (f_X1_noTask T C σ t) = 0 then (if (f_X1_noCpu T C σ c9) = 0 then 0 else 1) else 1) (if ((if (f_X1_noTask T C σ t) = 0 then (if (f_X1_noCpu T C σ c9) = 0 then 0 else 1) else 1) : Int32) = 0 then (if (σ.1 3 (ix t)) = 1 then 1 else (if (σ.1 3 (ix t)) = 3 then 1 else 0)) else 0)) t c9) else (sI (g_X1_isRefused T C σ (if (f_X1_noTask T C σ t) = 0 then (if (f_X1_noCpu T C σ c9) = 0 then 0 else 1) else 1) (if ((if (f_X1_noTask T C σ t) = 0 then (if (f_X1_noCpu T C σ c9) = 0 then 0 else 1) else 1) : Int32) = 0 then (if (σ.1 3 (ix t)) = 1 then 1 else (if (σ.1 3 (ix t)) = 3 then 1 else 0)) else 0)) 0 (ix t) c9)) = (g_X1_moveTask T C σ t c9) from (Eq.symm (if_pos h56))) hP) hS ⟨(Eq.symm (if_pos h56)), ⟨Eq.subst (motive := fun z => Inv T C z) (show (if ((g_X1_isRefused T C σ (if (f_X1_noTask T C σ t) = 0 then (if (f_X1_noCpu T C σ c9) = 0 then 0 else 1) else 1) (if ((if (f_X1_noTask T C σ t) = 0 then (if (f_X1_noCpu T C σ c9) = 0 then 0 else 1) else 1) : Int32) = 0 then (if (σ.1 3 (ix t)) = 1 then 1 else (if (σ.1 3 (ix t)) = 3 then 1 else 0)) else 0)).1 3 (ix t)) = 0 then (g_X1_goesTo T C (g_X1_isRefused T C σ (if (f_X1_noTask T C σ t) = 0 then (if (f_X1_noCpu T C σ c9) = 0 then 0 else 1) else 1) (if ((if (f_X1_noTask T C σ t) = 0 then (if (f_X1_noCpu T C σ c9) = 0 then 0 else 1) else 1) : Int32) = 0 then (if (σ.1 3 (ix t)) = 1 then 1 else (if (σ.1 3 (ix t)) = 3 then 1 else 0)) else 0)) t c9) else (sI (g_X1_isRefused T C σ (if (f_X1_noTask T C σ t) = 0 then (if (f_X1_noCpu T C σ c9) = 0 then 0 else 1) else 1) (if ((if (f_X1_noTask T C σ t) = 0 then (if (f_X1_noCpu T C σ c9) = 0 then 0 else 1) else 1) : Int32) = 0 then (if (σ.1 3 (ix t)) = 1 then 1 else (if (σ.1 3 (ix t)) = 3 then 1 else 0)) else 0)) 0 (ix t) c9)) = (g_X1_moveTask T C σ t c9) from (Eq.symm (if_pos h56))) hI, trivial⟩⟩ dX1_moveTask_96
        · refine lv_if_ne (tgt := 87) hx hb dX1_moveTask_75 (by decide) (fun h75 => ?_) (fun h75 => ?_)
          · skip
            refine lv_aload_n hx hb dX1_moveTask_87 rfl (lv_at hl 2 rfl) ?_
            refine gf_X1_34 hx hb hts hown hK hP dX1_moveTask_88 ?_
            refine lv_iload_n hx hb dX1_moveTask_91 rfl (lv_at hl 3 rfl) ?_
            refine lv_iload_n hx hb dX1_moveTask_92 rfl (lv_at hl 4 rfl) ?_
            refine st_0 hx hb hK hq hP hS (inT hI0 hT (or0 (ref0 h56).1).1) dX1_moveTask_93 (fun H locs hP hS => ?_)
            have hI : Inv T C (sI (g_X1_isRefused T C σ (if (f_X1_noTask T C σ t) = 0 then (if (f_X1_noCpu T C σ c9) = 0 then 0 else 1) else 1) (if ((if (f_X1_noTask T C σ t) = 0 then (if (f_X1_noCpu T C σ c9) = 0 then 0 else 1) else 1) : Int32) = 0 then (if (σ.1 3 (ix t)) = 1 then 1 else (if (σ.1 3 (ix t)) = 3 then 1 else 0)) else 0)) 0 (ix t) c9) := inv_cpu (inC hI0 hC (or0 (or0 (ref0 h56).1).2).1) hI
            exact K75 _ _ _ _ ⟨(sI (g_X1_isRefused T C σ (if (f_X1_noTask T C σ t) = 0 then (if (f_X1_noCpu T C σ c9) = 0 then 0 else 1) else 1) (if ((if (f_X1_noTask T C σ t) = 0 then (if (f_X1_noCpu T C σ c9) = 0 then 0 else 1) else 1) : Int32) = 0 then (if (σ.1 3 (ix t)) = 1 then 1 else (if (σ.1 3 (ix t)) = 3 then 1 else 0)) else 0)) 0 (ix t) c9), (Eq.symm (if_neg h75)), rfl, lv_sub hl [0, 1, 2, 3, 4] rfl, hP, hS, hI⟩
          · skip
            refine lv_aload_n hx hb dX1_moveTask_78 rfl (lv_at hl 2 rfl) ?_
            refine lv_iload_n hx hb dX1_moveTask_79 rfl (lv_at hl 3 rfl) ?_
            refine lv_iload_n hx hb dX1_moveTask_80 rfl (lv_at hl 4 rfl) ?_
            refine cl_WV (k_X1_goesTo l E q hq hT hC (g_X1_isRefused T C σ (if (f_X1_noTask T C σ t) = 0 then (if (f_X1_noCpu T C σ c9) = 0 then 0 else 1) else 1) (if ((if (f_X1_noTask T C σ t) = 0 then (if (f_X1_noCpu T C σ c9) = 0 then 0 else 1) else 1) : Int32) = 0 then (if (σ.1 3 (ix t)) = 1 then 1 else (if (σ.1 3 (ix t)) = 3 then 1 else 0)) else 0)) hI t c9 (inT hI0 hT (or0 (ref0 h56).1).1) (inC hI0 hC (or0 (or0 (ref0 h56).1).2).1)) gw_X1_105 hd_X1_goesTo ⟨rfl, rfl⟩ S0 hK hP hS (rest := []) rfl hl.1 (Nat.le_of_ble_eq_true rfl) ⟨(Nat.le_of_ble_eq_true rfl), (Nat.le_of_ble_eq_true rfl)⟩ ⟨Nat.zero_le _, Nat.zero_le _⟩ dX1_moveTask_81 (fun H locs hP hS hex => ?_)
            obtain ⟨hI, -⟩ := hex
            refine lv_goto (tgt := 94) hx hb dX1_moveTask_84 (by decide) ?_
            exact K75 _ _ _ _ ⟨(g_X1_goesTo T C (g_X1_isRefused T C σ (if (f_X1_noTask T C σ t) = 0 then (if (f_X1_noCpu T C σ c9) = 0 then 0 else 1) else 1) (if ((if (f_X1_noTask T C σ t) = 0 then (if (f_X1_noCpu T C σ c9) = 0 then 0 else 1) else 1) : Int32) = 0 then (if (σ.1 3 (ix t)) = 1 then 1 else (if (σ.1 3 (ix t)) = 3 then 1 else 0)) else 0)) t c9), (Eq.symm (if_pos h75)), rfl, lv_sub hl [0, 1, 2, 3, 4] rfl, hP, hS, hI⟩
      · skip
        refine lv_iconst (v := 0) hx hb dX1_moveTask_59 (by decide) ?_
        exact rt_WI hQ hx hb hr hlocks (Eq.subst (motive := fun z => PP 1 E q z H) (show (g_X1_isRefused T C σ (if (f_X1_noTask T C σ t) = 0 then (if (f_X1_noCpu T C σ c9) = 0 then 0 else 1) else 1) (if ((if (f_X1_noTask T C σ t) = 0 then (if (f_X1_noCpu T C σ c9) = 0 then 0 else 1) else 1) : Int32) = 0 then (if (σ.1 3 (ix t)) = 1 then 1 else (if (σ.1 3 (ix t)) = 3 then 1 else 0)) else 0)) = (g_X1_moveTask T C σ t c9) from (Eq.symm (if_neg h56))) hP) hS ⟨(Eq.symm (if_neg h56)), ⟨Eq.subst (motive := fun z => Inv T C z) (show (g_X1_isRefused T C σ (if (f_X1_noTask T C σ t) = 0 then (if (f_X1_noCpu T C σ c9) = 0 then 0 else 1) else 1) (if ((if (f_X1_noTask T C σ t) = 0 then (if (f_X1_noCpu T C σ c9) = 0 then 0 else 1) else 1) : Int32) = 0 then (if (σ.1 3 (ix t)) = 1 then 1 else (if (σ.1 3 (ix t)) = 3 then 1 else 0)) else 0)) = (g_X1_moveTask T C σ t c9) from (Eq.symm (if_neg h56))) hI, trivial⟩⟩ dX1_moveTask_60
    · refine lv_if_ne (tgt := 52) hx hb dX1_moveTask_25 (by decide) (fun h25 => ?_) (fun h25 => ?_)
      · skip
        refine lv_iconst (v := 0) hx hb dX1_moveTask_52 (by decide) ?_
        exact K25 _ _ _ _ ⟨0, (Eq.symm (if_neg h25)), rfl, lv_sub hl [0, 1, 2, 3] rfl, hP, hS, hI⟩
      · skip
        refine lv_aload_n hx hb dX1_moveTask_28 rfl (lv_at hl 1 rfl) ?_
        refine gf_X1_43 hx hb hts hown hK hP dX1_moveTask_29 ?_
        refine lv_iload_n hx hb dX1_moveTask_32 rfl (lv_at hl 2 rfl) ?_
        refine ld_3 hx hb hK hP (inT hI0 hT (or0 h25).1) dX1_moveTask_33 ?_
        refine lv_iconst (v := 1) hx hb dX1_moveTask_34 (by decide) ?_
        refine lv_icmp_eq (tgt := 48) hx hb dX1_moveTask_35 (by decide) (fun h35 => ?_) (fun h35 => ?_)
        · skip
          refine lv_iconst (v := 1) hx hb dX1_moveTask_48 (by decide) ?_
          refine lv_goto (tgt := 53) hx hb dX1_moveTask_49 (by decide) ?_
          exact K25 _ _ _ _ ⟨1, (Eq.symm (Eq.trans (if_pos h25) (if_pos h35))), rfl, lv_sub hl [0, 1, 2, 3] rfl, hP, hS, hI⟩
        · skip
          refine lv_aload_n hx hb dX1_moveTask_38 rfl (lv_at hl 1 rfl) ?_
          refine gf_X1_43 hx hb hts hown hK hP dX1_moveTask_39 ?_
          refine lv_iload_n hx hb dX1_moveTask_42 rfl (lv_at hl 2 rfl) ?_
          refine ld_3 hx hb hK hP (inT hI0 hT (or0 h25).1) dX1_moveTask_43 ?_
          refine lv_iconst (v := 3) hx hb dX1_moveTask_44 (by decide) ?_
          refine lv_icmp_ne (tgt := 52) hx hb dX1_moveTask_45 (by decide) (fun h45 => ?_) (fun h45 => ?_)
          · skip
            refine lv_iconst (v := 0) hx hb dX1_moveTask_52 (by decide) ?_
            exact K25 _ _ _ _ ⟨0, (Eq.symm (Eq.trans (Eq.trans (if_pos h25) (if_neg h35)) (if_neg h45))), rfl, lv_sub hl [0, 1, 2, 3] rfl, hP, hS, hI⟩
          · skip
            refine lv_iconst (v := 1) hx hb dX1_moveTask_48 (by decide) ?_
            refine lv_goto (tgt := 53) hx hb dX1_moveTask_49 (by decide) ?_
            exact K25 _ _ _ _ ⟨1, (Eq.symm (Eq.trans (Eq.trans (if_pos h25) (if_neg h35)) (if_pos h45))), rfl, lv_sub hl [0, 1, 2, 3] rfl, hP, hS, hI⟩
  · refine lv_if_ne (tgt := 16) hx hb dX1_moveTask_5 (by decide) (fun h5 => ?_) (fun h5 => ?_)
    · skip
      refine lv_iconst (v := 1) hx hb dX1_moveTask_16 (by decide) ?_
      refine lv_goto (tgt := 21) hx hb dX1_moveTask_17 (by decide) ?_
      exact K5 _ _ _ _ ⟨1, (Eq.symm (if_neg h5)), rfl, lv_sub hl [0, 1, 2] rfl, hP, hS, hI⟩
    · skip
      refine lv_aload_n hx hb dX1_moveTask_8 rfl (lv_at hl 0 rfl) ?_
      refine lv_iload_n hx hb dX1_moveTask_9 rfl (lv_at hl 2 rfl) ?_
      refine cl_RI (k_X1_noCpu l E q hq hT hC σ hI c9 ) gw_X1_125 hd_X1_noCpu ⟨rfl, rfl⟩ S0 hK hP (rest := []) rfl hl.1 (Nat.le_of_ble_eq_true rfl) ⟨(Nat.le_of_ble_eq_true rfl), (Nat.le_of_ble_eq_true rfl)⟩ ⟨Nat.zero_le _, Nat.zero_le _⟩ dX1_moveTask_10 (fun hex => ?_)
      refine lv_if_eq (tgt := 20) hx hb dX1_moveTask_13 (by decide) (fun h13 => ?_) (fun h13 => ?_)
      · skip
        refine lv_iconst (v := 0) hx hb dX1_moveTask_20 (by decide) ?_
        exact K5 _ _ _ _ ⟨0, (Eq.symm (Eq.trans (if_pos h5) (if_pos h13))), rfl, lv_sub hl [0, 1, 2] rfl, hP, hS, hI⟩
      · skip
        refine lv_iconst (v := 1) hx hb dX1_moveTask_16 (by decide) ?_
        refine lv_goto (tgt := 21) hx hb dX1_moveTask_17 (by decide) ?_
        exact K5 _ _ _ _ ⟨1, (Eq.symm (Eq.trans (if_pos h5) (if_neg h13))), rfl, lv_sub hl [0, 1, 2] rfl, hP, hS, hI⟩
def f_X1_runningTask (T C : Nat) (σ : St) (c9 : Int32) : Int32 := (if (f_X1_isRefused T C σ (f_X1_noCpu T C σ c9) 0) = 0 then ((g_X1_isRefused T C σ (f_X1_noCpu T C σ c9) 0).1 8 (ix c9)) else 0)
def g_X1_runningTask (T C : Nat) (σ : St) (c9 : Int32) : St := (g_X1_isRefused T C σ (f_X1_noCpu T C σ c9) 0)
def rm_X1_runningTask : Room := { frames := 2, cells := 0, slots := 0, locals := 46 }
set_option maxHeartbeats 1600000 in
set_option maxRecDepth 100000 in
theorem k_X1_runningTask (l : Launch) (E : Ev) (q : Nat → Nat) (hq : Dq q) {T C : Nat} (hT : T ≤ 16) (hC : 1 ≤ C ∧ C ≤ 4) (σ : St) (hI : Inv T C σ) (c9 : Int32) : WI l 1 E q σ yX1_runningTask cX1_runningTask 2 (some .int) rm_X1_runningTask [.int c9] (f_X1_runningTask T C σ c9) (g_X1_runningTask T C σ c9) (Inv T C (g_X1_runningTask T C σ c9) ∧ True) := by
  refine Met.ofB (by decide) (Nat.le_of_ble_eq_true rfl) (fun p e s m args below meth c ls Q B hQ hPK hl => ?_)
  obtain ⟨hx, hb, hml, hr, hlocks, hown, hts⟩ := B
  have S0 : Fx p m c cX1_runningTask 2 s args RX1 := ⟨hx, hb, hml, hown, hts⟩
  obtain ⟨hP, hK⟩ := hPK
  suffices KH : ∀ (H : Heap) (locs : List Loc), PP 1 E q σ H → va_S (Aq q) s.heap H locs → W p l e rm_X1_runningTask s m args below meth c H locs 0 0 Q (F0 m 0 ls []) from KH s.heap [] hP va_S.rf
  intro H locs hP hS
  have hl : lv_has ls 2 [(0, .ref (q 0)), (1, .int c9)] := hl
  have hI0 := hI
  refine lv_aload_n hx hb dX1_runningTask_0 rfl (lv_at hl 0 rfl) ?_
  refine lv_aload_n hx hb dX1_runningTask_1 rfl (lv_at hl 0 rfl) ?_
  refine lv_iload_n hx hb dX1_runningTask_2 rfl (lv_at hl 1 rfl) ?_
  refine cl_RI (k_X1_noCpu l E q hq hT hC σ hI c9 ) gw_X1_125 hd_X1_noCpu ⟨rfl, rfl⟩ S0 hK hP (rest := [.ref (q 0)]) rfl hl.1 (Nat.le_of_ble_eq_true rfl) ⟨(Nat.le_of_ble_eq_true rfl), (Nat.le_of_ble_eq_true rfl)⟩ ⟨Nat.zero_le _, Nat.zero_le _⟩ dX1_runningTask_3 (fun hex => ?_)
  refine lv_iconst (v := 0) hx hb dX1_runningTask_6 (by decide) ?_
  refine cl_WI (k_X1_isRefused l E q hq hT hC σ hI (f_X1_noCpu T C σ c9) 0 ) gw_X1_78 hd_X1_isRefused ⟨rfl, rfl⟩ S0 hK hP hS (rest := []) rfl hl.1 (Nat.le_of_ble_eq_true rfl) ⟨(Nat.le_of_ble_eq_true rfl), (Nat.le_of_ble_eq_true rfl)⟩ ⟨Nat.zero_le _, Nat.zero_le _⟩ dX1_runningTask_7 (fun H locs hP hS hex => ?_)
  obtain ⟨hI, -⟩ := hex
  refine cutG (fun ls H locs st => ∃ y0 : Int32, y0 = (if (f_X1_isRefused T C σ (f_X1_noCpu T C σ c9) 0) = 0 then ((g_X1_isRefused T C σ (f_X1_noCpu T C σ c9) 0).1 8 (ix c9)) else 0) ∧ st = [.int y0] ∧ lv_has ls 2 [(0, .ref (q 0)), (1, .int c9)] ∧ PP 1 E q (g_X1_isRefused T C σ (f_X1_noCpu T C σ c9) 0) H ∧ va_S (Aq q) s.heap H locs ∧ Inv T C (g_X1_isRefused T C σ (f_X1_noCpu T C σ c9) 0)) 23 (fun ls H locs st hKp => ?_) (fun K10 => ?_)
  · revert hKp
    refine ex_eq (fun hKp => ?_)
    obtain ⟨rfl, hl, hP, hS, hI⟩ := hKp
    exact rt_WI hQ hx hb hr hlocks (Eq.subst (motive := fun z => PP 1 E q z H) (show (g_X1_isRefused T C σ (f_X1_noCpu T C σ c9) 0) = (g_X1_runningTask T C σ c9) from rfl) hP) hS ⟨rfl, ⟨Eq.subst (motive := fun z => Inv T C z) (show (g_X1_isRefused T C σ (f_X1_noCpu T C σ c9) 0) = (g_X1_runningTask T C σ c9) from rfl) hI, trivial⟩⟩ dX1_runningTask_23
  · refine lv_if_eq (tgt := 17) hx hb dX1_runningTask_10 (by decide) (fun h10 => ?_) (fun h10 => ?_)
    · skip
      refine lv_aload_n hx hb dX1_runningTask_17 rfl (lv_at hl 0 rfl) ?_
      refine gf_X1_17 hx hb hts hown hK hP dX1_runningTask_18 ?_
      refine lv_iload_n hx hb dX1_runningTask_21 rfl (lv_at hl 1 rfl) ?_
      refine ld_8 hx hb hK hP (inC hI0 hC (ref0 h10).1) dX1_runningTask_22 ?_
      exact K10 _ _ _ _ ⟨((g_X1_isRefused T C σ (f_X1_noCpu T C σ c9) 0).1 8 (ix c9)), (Eq.symm (if_pos h10)), rfl, lv_sub hl [0, 1] rfl, hP, hS, hI⟩
    · skip
      refine lv_iconst (v := 0) hx hb dX1_runningTask_13 (by decide) ?_
      refine lv_goto (tgt := 23) hx hb dX1_runningTask_14 (by decide) ?_
      exact K10 _ _ _ _ ⟨0, (Eq.symm (if_neg h10)), rfl, lv_sub hl [0, 1] rfl, hP, hS, hI⟩
def f_X1_coreCookie (T C : Nat) (σ : St) (c9 : Int32) : Int32 := (if (f_X1_isRefused T C σ (f_X1_noCore T C σ c9) 0) = 0 then ((g_X1_isRefused T C σ (f_X1_noCore T C σ c9) 0).1 12 (ix c9)) else 0)
def g_X1_coreCookie (T C : Nat) (σ : St) (c9 : Int32) : St := (g_X1_isRefused T C σ (f_X1_noCore T C σ c9) 0)
def rm_X1_coreCookie : Room := { frames := 2, cells := 0, slots := 0, locals := 46 }
set_option maxHeartbeats 1600000 in
set_option maxRecDepth 100000 in
theorem k_X1_coreCookie (l : Launch) (E : Ev) (q : Nat → Nat) (hq : Dq q) {T C : Nat} (hT : T ≤ 16) (hC : 1 ≤ C ∧ C ≤ 4) (σ : St) (hI : Inv T C σ) (c9 : Int32) : WI l 1 E q σ yX1_coreCookie cX1_coreCookie 2 (some .int) rm_X1_coreCookie [.int c9] (f_X1_coreCookie T C σ c9) (g_X1_coreCookie T C σ c9) (Inv T C (g_X1_coreCookie T C σ c9) ∧ True) := by
  refine Met.ofB (by decide) (Nat.le_of_ble_eq_true rfl) (fun p e s m args below meth c ls Q B hQ hPK hl => ?_)
  obtain ⟨hx, hb, hml, hr, hlocks, hown, hts⟩ := B
  have S0 : Fx p m c cX1_coreCookie 2 s args RX1 := ⟨hx, hb, hml, hown, hts⟩
  obtain ⟨hP, hK⟩ := hPK
  suffices KH : ∀ (H : Heap) (locs : List Loc), PP 1 E q σ H → va_S (Aq q) s.heap H locs → W p l e rm_X1_coreCookie s m args below meth c H locs 0 0 Q (F0 m 0 ls []) from KH s.heap [] hP va_S.rf
  intro H locs hP hS
  have hl : lv_has ls 2 [(0, .ref (q 0)), (1, .int c9)] := hl
  have hI0 := hI
  refine lv_aload_n hx hb dX1_coreCookie_0 rfl (lv_at hl 0 rfl) ?_
  refine lv_aload_n hx hb dX1_coreCookie_1 rfl (lv_at hl 0 rfl) ?_
  refine lv_iload_n hx hb dX1_coreCookie_2 rfl (lv_at hl 1 rfl) ?_
  refine cl_RI (k_X1_noCore l E q hq hT hC σ hI c9 ) gw_X1_143 hd_X1_noCore ⟨rfl, rfl⟩ S0 hK hP (rest := [.ref (q 0)]) rfl hl.1 (Nat.le_of_ble_eq_true rfl) ⟨(Nat.le_of_ble_eq_true rfl), (Nat.le_of_ble_eq_true rfl)⟩ ⟨Nat.zero_le _, Nat.zero_le _⟩ dX1_coreCookie_3 (fun hex => ?_)
  refine lv_iconst (v := 0) hx hb dX1_coreCookie_6 (by decide) ?_
  refine cl_WI (k_X1_isRefused l E q hq hT hC σ hI (f_X1_noCore T C σ c9) 0 ) gw_X1_78 hd_X1_isRefused ⟨rfl, rfl⟩ S0 hK hP hS (rest := []) rfl hl.1 (Nat.le_of_ble_eq_true rfl) ⟨(Nat.le_of_ble_eq_true rfl), (Nat.le_of_ble_eq_true rfl)⟩ ⟨Nat.zero_le _, Nat.zero_le _⟩ dX1_coreCookie_7 (fun H locs hP hS hex => ?_)
  obtain ⟨hI, -⟩ := hex
  refine cutG (fun ls H locs st => ∃ y0 : Int32, y0 = (if (f_X1_isRefused T C σ (f_X1_noCore T C σ c9) 0) = 0 then ((g_X1_isRefused T C σ (f_X1_noCore T C σ c9) 0).1 12 (ix c9)) else 0) ∧ st = [.int y0] ∧ lv_has ls 2 [(0, .ref (q 0)), (1, .int c9)] ∧ PP 1 E q (g_X1_isRefused T C σ (f_X1_noCore T C σ c9) 0) H ∧ va_S (Aq q) s.heap H locs ∧ Inv T C (g_X1_isRefused T C σ (f_X1_noCore T C σ c9) 0)) 23 (fun ls H locs st hKp => ?_) (fun K10 => ?_)
  · revert hKp
    refine ex_eq (fun hKp => ?_)
    obtain ⟨rfl, hl, hP, hS, hI⟩ := hKp
    exact rt_WI hQ hx hb hr hlocks (Eq.subst (motive := fun z => PP 1 E q z H) (show (g_X1_isRefused T C σ (f_X1_noCore T C σ c9) 0) = (g_X1_coreCookie T C σ c9) from rfl) hP) hS ⟨rfl, ⟨Eq.subst (motive := fun z => Inv T C z) (show (g_X1_isRefused T C σ (f_X1_noCore T C σ c9) 0) = (g_X1_coreCookie T C σ c9) from rfl) hI, trivial⟩⟩ dX1_coreCookie_23
  · refine lv_if_eq (tgt := 17) hx hb dX1_coreCookie_10 (by decide) (fun h10 => ?_) (fun h10 => ?_)
    · skip
      refine lv_aload_n hx hb dX1_coreCookie_17 rfl (lv_at hl 0 rfl) ?_
      refine gf_X1_31 hx hb hts hown hK hP dX1_coreCookie_18 ?_
      refine lv_iload_n hx hb dX1_coreCookie_21 rfl (lv_at hl 1 rfl) ?_
      refine ld_12 hx hb hK hP (inR hI0 hC (ref0 h10).1) dX1_coreCookie_22 ?_
      exact K10 _ _ _ _ ⟨((g_X1_isRefused T C σ (f_X1_noCore T C σ c9) 0).1 12 (ix c9)), (Eq.symm (if_pos h10)), rfl, lv_sub hl [0, 1] rfl, hP, hS, hI⟩
    · skip
      refine lv_iconst (v := 0) hx hb dX1_coreCookie_13 (by decide) ?_
      refine lv_goto (tgt := 23) hx hb dX1_coreCookie_14 (by decide) ?_
      exact K10 _ _ _ _ ⟨0, (Eq.symm (if_neg h10)), rfl, lv_sub hl [0, 1] rfl, hP, hS, hI⟩
def f_X1_leaderOf (T C : Nat) (σ : St) (c9 : Int32) : Int32 := (if (f_X1_isRefused T C σ (f_X1_noCore T C σ c9) 0) = 0 then (f_X1_leader T C (g_X1_isRefused T C σ (f_X1_noCore T C σ c9) 0) c9) else 0)
def g_X1_leaderOf (T C : Nat) (σ : St) (c9 : Int32) : St := (g_X1_isRefused T C σ (f_X1_noCore T C σ c9) 0)
def rm_X1_leaderOf : Room := { frames := 3, cells := 0, slots := 0, locals := 70 }
set_option maxHeartbeats 1600000 in
set_option maxRecDepth 100000 in
theorem k_X1_leaderOf (l : Launch) (E : Ev) (q : Nat → Nat) (hq : Dq q) {T C : Nat} (hT : T ≤ 16) (hC : 1 ≤ C ∧ C ≤ 4) (σ : St) (hI : Inv T C σ) (c9 : Int32) : WI l 1 E q σ yX1_leaderOf cX1_leaderOf 2 (some .int) rm_X1_leaderOf [.int c9] (f_X1_leaderOf T C σ c9) (g_X1_leaderOf T C σ c9) (Inv T C (g_X1_leaderOf T C σ c9) ∧ True) := by
  refine Met.ofB (by decide) (Nat.le_of_ble_eq_true rfl) (fun p e s m args below meth c ls Q B hQ hPK hl => ?_)
  obtain ⟨hx, hb, hml, hr, hlocks, hown, hts⟩ := B
  have S0 : Fx p m c cX1_leaderOf 2 s args RX1 := ⟨hx, hb, hml, hown, hts⟩
  obtain ⟨hP, hK⟩ := hPK
  suffices KH : ∀ (H : Heap) (locs : List Loc), PP 1 E q σ H → va_S (Aq q) s.heap H locs → W p l e rm_X1_leaderOf s m args below meth c H locs 0 0 Q (F0 m 0 ls []) from KH s.heap [] hP va_S.rf
  intro H locs hP hS
  have hl : lv_has ls 2 [(0, .ref (q 0)), (1, .int c9)] := hl
  have hI0 := hI
  refine lv_aload_n hx hb dX1_leaderOf_0 rfl (lv_at hl 0 rfl) ?_
  refine lv_aload_n hx hb dX1_leaderOf_1 rfl (lv_at hl 0 rfl) ?_
  refine lv_iload_n hx hb dX1_leaderOf_2 rfl (lv_at hl 1 rfl) ?_
  refine cl_RI (k_X1_noCore l E q hq hT hC σ hI c9 ) gw_X1_143 hd_X1_noCore ⟨rfl, rfl⟩ S0 hK hP (rest := [.ref (q 0)]) rfl hl.1 (Nat.le_of_ble_eq_true rfl) ⟨(Nat.le_of_ble_eq_true rfl), (Nat.le_of_ble_eq_true rfl)⟩ ⟨Nat.zero_le _, Nat.zero_le _⟩ dX1_leaderOf_3 (fun hex => ?_)
  refine lv_iconst (v := 0) hx hb dX1_leaderOf_6 (by decide) ?_
  refine cl_WI (k_X1_isRefused l E q hq hT hC σ hI (f_X1_noCore T C σ c9) 0 ) gw_X1_78 hd_X1_isRefused ⟨rfl, rfl⟩ S0 hK hP hS (rest := []) rfl hl.1 (Nat.le_of_ble_eq_true rfl) ⟨(Nat.le_of_ble_eq_true rfl), (Nat.le_of_ble_eq_true rfl)⟩ ⟨Nat.zero_le _, Nat.zero_le _⟩ dX1_leaderOf_7 (fun H locs hP hS hex => ?_)
  obtain ⟨hI, -⟩ := hex
  refine cutG (fun ls H locs st => ∃ y0 : Int32, y0 = (if (f_X1_isRefused T C σ (f_X1_noCore T C σ c9) 0) = 0 then (f_X1_leader T C (g_X1_isRefused T C σ (f_X1_noCore T C σ c9) 0) c9) else 0) ∧ st = [.int y0] ∧ lv_has ls 2 [(0, .ref (q 0)), (1, .int c9)] ∧ PP 1 E q (g_X1_isRefused T C σ (f_X1_noCore T C σ c9) 0) H ∧ va_S (Aq q) s.heap H locs ∧ Inv T C (g_X1_isRefused T C σ (f_X1_noCore T C σ c9) 0)) 22 (fun ls H locs st hKp => ?_) (fun K10 => ?_)
  · revert hKp
    refine ex_eq (fun hKp => ?_)
    obtain ⟨rfl, hl, hP, hS, hI⟩ := hKp
    exact rt_WI hQ hx hb hr hlocks (Eq.subst (motive := fun z => PP 1 E q z H) (show (g_X1_isRefused T C σ (f_X1_noCore T C σ c9) 0) = (g_X1_leaderOf T C σ c9) from rfl) hP) hS ⟨rfl, ⟨Eq.subst (motive := fun z => Inv T C z) (show (g_X1_isRefused T C σ (f_X1_noCore T C σ c9) 0) = (g_X1_leaderOf T C σ c9) from rfl) hI, trivial⟩⟩ dX1_leaderOf_22
  · refine lv_if_eq (tgt := 17) hx hb dX1_leaderOf_10 (by decide) (fun h10 => ?_) (fun h10 => ?_)
    · skip
      refine lv_aload_n hx hb dX1_leaderOf_17 rfl (lv_at hl 0 rfl) ?_
      refine lv_iload_n hx hb dX1_leaderOf_18 rfl (lv_at hl 1 rfl) ?_
      refine cl_RI (k_X1_leader l E q hq hT hC (g_X1_isRefused T C σ (f_X1_noCore T C σ c9) 0) hI c9 ) gw_X1_94 hd_X1_leader ⟨rfl, rfl⟩ S0 hK hP (rest := []) rfl hl.1 (Nat.le_of_ble_eq_true rfl) ⟨(Nat.le_of_ble_eq_true rfl), (Nat.le_of_ble_eq_true rfl)⟩ ⟨Nat.zero_le _, Nat.zero_le _⟩ dX1_leaderOf_19 (fun hex => ?_)
      obtain ⟨hx19_0, -⟩ := hex
      exact K10 _ _ _ _ ⟨(f_X1_leader T C (g_X1_isRefused T C σ (f_X1_noCore T C σ c9) 0) c9), (Eq.symm (if_pos h10)), rfl, lv_sub hl [0, 1] rfl, hP, hS, hI⟩
    · skip
      refine lv_iconst (v := 0) hx hb dX1_leaderOf_13 (by decide) ?_
      refine lv_goto (tgt := 22) hx hb dX1_leaderOf_14 (by decide) ?_
      exact K10 _ _ _ _ ⟨0, (Eq.symm (if_neg h10)), rfl, lv_sub hl [0, 1] rfl, hP, hS, hI⟩
def f_X1_queueLength (T C : Nat) (σ : St) (c9 : Int32) : Int32 := (if (f_X1_isRefused T C σ (f_X1_noCpu T C σ c9) 0) = 0 then (f_X1_queued T C (g_X1_isRefused T C σ (f_X1_noCpu T C σ c9) 0) c9) else 0)
def g_X1_queueLength (T C : Nat) (σ : St) (c9 : Int32) : St := (g_X1_isRefused T C σ (f_X1_noCpu T C σ c9) 0)
def rm_X1_queueLength : Room := { frames := 2, cells := 0, slots := 0, locals := 46 }
set_option maxHeartbeats 1600000 in
set_option maxRecDepth 100000 in
theorem k_X1_queueLength (l : Launch) (E : Ev) (q : Nat → Nat) (hq : Dq q) {T C : Nat} (hT : T ≤ 16) (hC : 1 ≤ C ∧ C ≤ 4) (σ : St) (hI : Inv T C σ) (c9 : Int32) : WI l 1 E q σ yX1_queueLength cX1_queueLength 2 (some .int) rm_X1_queueLength [.int c9] (f_X1_queueLength T C σ c9) (g_X1_queueLength T C σ c9) (Inv T C (g_X1_queueLength T C σ c9) ∧ True) := by
  refine Met.ofB (by decide) (Nat.le_of_ble_eq_true rfl) (fun p e s m args below meth c ls Q B hQ hPK hl => ?_)
  obtain ⟨hx, hb, hml, hr, hlocks, hown, hts⟩ := B
  have S0 : Fx p m c cX1_queueLength 2 s args RX1 := ⟨hx, hb, hml, hown, hts⟩
  obtain ⟨hP, hK⟩ := hPK
  suffices KH : ∀ (H : Heap) (locs : List Loc), PP 1 E q σ H → va_S (Aq q) s.heap H locs → W p l e rm_X1_queueLength s m args below meth c H locs 0 0 Q (F0 m 0 ls []) from KH s.heap [] hP va_S.rf
  intro H locs hP hS
  have hl : lv_has ls 2 [(0, .ref (q 0)), (1, .int c9)] := hl
  have hI0 := hI
  refine lv_aload_n hx hb dX1_queueLength_0 rfl (lv_at hl 0 rfl) ?_
  refine lv_aload_n hx hb dX1_queueLength_1 rfl (lv_at hl 0 rfl) ?_
  refine lv_iload_n hx hb dX1_queueLength_2 rfl (lv_at hl 1 rfl) ?_
  refine cl_RI (k_X1_noCpu l E q hq hT hC σ hI c9 ) gw_X1_125 hd_X1_noCpu ⟨rfl, rfl⟩ S0 hK hP (rest := [.ref (q 0)]) rfl hl.1 (Nat.le_of_ble_eq_true rfl) ⟨(Nat.le_of_ble_eq_true rfl), (Nat.le_of_ble_eq_true rfl)⟩ ⟨Nat.zero_le _, Nat.zero_le _⟩ dX1_queueLength_3 (fun hex => ?_)
  refine lv_iconst (v := 0) hx hb dX1_queueLength_6 (by decide) ?_
  refine cl_WI (k_X1_isRefused l E q hq hT hC σ hI (f_X1_noCpu T C σ c9) 0 ) gw_X1_78 hd_X1_isRefused ⟨rfl, rfl⟩ S0 hK hP hS (rest := []) rfl hl.1 (Nat.le_of_ble_eq_true rfl) ⟨(Nat.le_of_ble_eq_true rfl), (Nat.le_of_ble_eq_true rfl)⟩ ⟨Nat.zero_le _, Nat.zero_le _⟩ dX1_queueLength_7 (fun H locs hP hS hex => ?_)
  obtain ⟨hI, -⟩ := hex
  refine cutG (fun ls H locs st => ∃ y0 : Int32, y0 = (if (f_X1_isRefused T C σ (f_X1_noCpu T C σ c9) 0) = 0 then (f_X1_queued T C (g_X1_isRefused T C σ (f_X1_noCpu T C σ c9) 0) c9) else 0) ∧ st = [.int y0] ∧ lv_has ls 2 [(0, .ref (q 0)), (1, .int c9)] ∧ PP 1 E q (g_X1_isRefused T C σ (f_X1_noCpu T C σ c9) 0) H ∧ va_S (Aq q) s.heap H locs ∧ Inv T C (g_X1_isRefused T C σ (f_X1_noCpu T C σ c9) 0)) 22 (fun ls H locs st hKp => ?_) (fun K10 => ?_)
  · revert hKp
    refine ex_eq (fun hKp => ?_)
    obtain ⟨rfl, hl, hP, hS, hI⟩ := hKp
    exact rt_WI hQ hx hb hr hlocks (Eq.subst (motive := fun z => PP 1 E q z H) (show (g_X1_isRefused T C σ (f_X1_noCpu T C σ c9) 0) = (g_X1_queueLength T C σ c9) from rfl) hP) hS ⟨rfl, ⟨Eq.subst (motive := fun z => Inv T C z) (show (g_X1_isRefused T C σ (f_X1_noCpu T C σ c9) 0) = (g_X1_queueLength T C σ c9) from rfl) hI, trivial⟩⟩ dX1_queueLength_22
  · refine lv_if_eq (tgt := 17) hx hb dX1_queueLength_10 (by decide) (fun h10 => ?_) (fun h10 => ?_)
    · skip
      refine lv_aload_n hx hb dX1_queueLength_17 rfl (lv_at hl 0 rfl) ?_
      refine lv_iload_n hx hb dX1_queueLength_18 rfl (lv_at hl 1 rfl) ?_
      refine cl_RI (k_X1_queued l E q hq hT hC (g_X1_isRefused T C σ (f_X1_noCpu T C σ c9) 0) hI c9 ) gw_X1_109 hd_X1_queued ⟨rfl, rfl⟩ S0 hK hP (rest := []) rfl hl.1 (Nat.le_of_ble_eq_true rfl) ⟨(Nat.le_of_ble_eq_true rfl), (Nat.le_of_ble_eq_true rfl)⟩ ⟨Nat.zero_le _, Nat.zero_le _⟩ dX1_queueLength_19 (fun hex => ?_)
      exact K10 _ _ _ _ ⟨(f_X1_queued T C (g_X1_isRefused T C σ (f_X1_noCpu T C σ c9) 0) c9), (Eq.symm (if_pos h10)), rfl, lv_sub hl [0, 1] rfl, hP, hS, hI⟩
    · skip
      refine lv_iconst (v := 0) hx hb dX1_queueLength_13 (by decide) ?_
      refine lv_goto (tgt := 22) hx hb dX1_queueLength_14 (by decide) ?_
      exact K10 _ _ _ _ ⟨0, (Eq.symm (if_neg h10)), rfl, lv_sub hl [0, 1] rfl, hP, hS, hI⟩
def f_X1_baseOf (T C : Nat) (σ : St) (c9 : Int32) : Int64 := (if (f_X1_isRefused T C σ (f_X1_noCpu T C σ c9) 0) = 0 then ((g_X1_isRefused T C σ (f_X1_noCpu T C σ c9) 0).2.1 7 (ix c9)) else 0)
def g_X1_baseOf (T C : Nat) (σ : St) (c9 : Int32) : St := (g_X1_isRefused T C σ (f_X1_noCpu T C σ c9) 0)
def rm_X1_baseOf : Room := { frames := 2, cells := 0, slots := 0, locals := 46 }
set_option maxHeartbeats 1600000 in
set_option maxRecDepth 100000 in
theorem k_X1_baseOf (l : Launch) (E : Ev) (q : Nat → Nat) (hq : Dq q) {T C : Nat} (hT : T ≤ 16) (hC : 1 ≤ C ∧ C ≤ 4) (σ : St) (hI : Inv T C σ) (c9 : Int32) : WJ l 1 E q σ yX1_baseOf cX1_baseOf 2 (some .long) rm_X1_baseOf [.int c9] (f_X1_baseOf T C σ c9) (g_X1_baseOf T C σ c9) (Inv T C (g_X1_baseOf T C σ c9) ∧ True) := by
  refine Met.ofB (by decide) (Nat.le_of_ble_eq_true rfl) (fun p e s m args below meth c ls Q B hQ hPK hl => ?_)
  obtain ⟨hx, hb, hml, hr, hlocks, hown, hts⟩ := B
  have S0 : Fx p m c cX1_baseOf 2 s args RX1 := ⟨hx, hb, hml, hown, hts⟩
  obtain ⟨hP, hK⟩ := hPK
  suffices KH : ∀ (H : Heap) (locs : List Loc), PP 1 E q σ H → va_S (Aq q) s.heap H locs → W p l e rm_X1_baseOf s m args below meth c H locs 0 0 Q (F0 m 0 ls []) from KH s.heap [] hP va_S.rf
  intro H locs hP hS
  have hl : lv_has ls 2 [(0, .ref (q 0)), (1, .int c9)] := hl
  have hI0 := hI
  refine lv_aload_n hx hb dX1_baseOf_0 rfl (lv_at hl 0 rfl) ?_
  refine lv_aload_n hx hb dX1_baseOf_1 rfl (lv_at hl 0 rfl) ?_
  refine lv_iload_n hx hb dX1_baseOf_2 rfl (lv_at hl 1 rfl) ?_
  refine cl_RI (k_X1_noCpu l E q hq hT hC σ hI c9 ) gw_X1_125 hd_X1_noCpu ⟨rfl, rfl⟩ S0 hK hP (rest := [.ref (q 0)]) rfl hl.1 (Nat.le_of_ble_eq_true rfl) ⟨(Nat.le_of_ble_eq_true rfl), (Nat.le_of_ble_eq_true rfl)⟩ ⟨Nat.zero_le _, Nat.zero_le _⟩ dX1_baseOf_3 (fun hex => ?_)
  refine lv_iconst (v := 0) hx hb dX1_baseOf_6 (by decide) ?_
  refine cl_WI (k_X1_isRefused l E q hq hT hC σ hI (f_X1_noCpu T C σ c9) 0 ) gw_X1_78 hd_X1_isRefused ⟨rfl, rfl⟩ S0 hK hP hS (rest := []) rfl hl.1 (Nat.le_of_ble_eq_true rfl) ⟨(Nat.le_of_ble_eq_true rfl), (Nat.le_of_ble_eq_true rfl)⟩ ⟨Nat.zero_le _, Nat.zero_le _⟩ dX1_baseOf_7 (fun H locs hP hS hex => ?_)
  obtain ⟨hI, -⟩ := hex
  refine cutG (fun ls H locs st => ∃ y0 : Int64, y0 = (if (f_X1_isRefused T C σ (f_X1_noCpu T C σ c9) 0) = 0 then ((g_X1_isRefused T C σ (f_X1_noCpu T C σ c9) 0).2.1 7 (ix c9)) else 0) ∧ st = [.long y0] ∧ lv_has ls 2 [(0, .ref (q 0)), (1, .int c9)] ∧ PP 1 E q (g_X1_isRefused T C σ (f_X1_noCpu T C σ c9) 0) H ∧ va_S (Aq q) s.heap H locs ∧ Inv T C (g_X1_isRefused T C σ (f_X1_noCpu T C σ c9) 0)) 23 (fun ls H locs st hKp => ?_) (fun K10 => ?_)
  · revert hKp
    refine ex_eq (fun hKp => ?_)
    obtain ⟨rfl, hl, hP, hS, hI⟩ := hKp
    exact rt_WJ hQ hx hb hr hlocks (Eq.subst (motive := fun z => PP 1 E q z H) (show (g_X1_isRefused T C σ (f_X1_noCpu T C σ c9) 0) = (g_X1_baseOf T C σ c9) from rfl) hP) hS ⟨rfl, ⟨Eq.subst (motive := fun z => Inv T C z) (show (g_X1_isRefused T C σ (f_X1_noCpu T C σ c9) 0) = (g_X1_baseOf T C σ c9) from rfl) hI, trivial⟩⟩ dX1_baseOf_23
  · refine lv_if_eq (tgt := 17) hx hb dX1_baseOf_10 (by decide) (fun h10 => ?_) (fun h10 => ?_)
    · skip
      refine lv_aload_n hx hb dX1_baseOf_17 rfl (lv_at hl 0 rfl) ?_
      refine gf_X1_13 hx hb hts hown hK hP dX1_baseOf_18 ?_
      refine lv_iload_n hx hb dX1_baseOf_21 rfl (lv_at hl 1 rfl) ?_
      refine ld_7 hx hb hK hP (inC hI0 hC (ref0 h10).1) dX1_baseOf_22 ?_
      exact K10 _ _ _ _ ⟨((g_X1_isRefused T C σ (f_X1_noCpu T C σ c9) 0).2.1 7 (ix c9)), (Eq.symm (if_pos h10)), rfl, lv_sub hl [0, 1] rfl, hP, hS, hI⟩
    · skip
      refine lv_lconst (v := 0) hx hb dX1_baseOf_13 (by decide) ?_
      refine lv_goto (tgt := 23) hx hb dX1_baseOf_14 (by decide) ?_
      exact K10 _ _ _ _ ⟨0, (Eq.symm (if_neg h10)), rfl, lv_sub hl [0, 1] rfl, hP, hS, hI⟩
def f_X1_idleTicks (T C : Nat) (σ : St) (c9 : Int32) : Int32 := (if (f_X1_isRefused T C σ (f_X1_noCpu T C σ c9) 0) = 0 then ((g_X1_isRefused T C σ (f_X1_noCpu T C σ c9) 0).1 10 (ix c9)) else 0)
def g_X1_idleTicks (T C : Nat) (σ : St) (c9 : Int32) : St := (g_X1_isRefused T C σ (f_X1_noCpu T C σ c9) 0)
def rm_X1_idleTicks : Room := { frames := 2, cells := 0, slots := 0, locals := 46 }
set_option maxHeartbeats 1600000 in
set_option maxRecDepth 100000 in
theorem k_X1_idleTicks (l : Launch) (E : Ev) (q : Nat → Nat) (hq : Dq q) {T C : Nat} (hT : T ≤ 16) (hC : 1 ≤ C ∧ C ≤ 4) (σ : St) (hI : Inv T C σ) (c9 : Int32) : WI l 1 E q σ yX1_idleTicks cX1_idleTicks 2 (some .int) rm_X1_idleTicks [.int c9] (f_X1_idleTicks T C σ c9) (g_X1_idleTicks T C σ c9) (Inv T C (g_X1_idleTicks T C σ c9) ∧ True) := by
  refine Met.ofB (by decide) (Nat.le_of_ble_eq_true rfl) (fun p e s m args below meth c ls Q B hQ hPK hl => ?_)
  obtain ⟨hx, hb, hml, hr, hlocks, hown, hts⟩ := B
  have S0 : Fx p m c cX1_idleTicks 2 s args RX1 := ⟨hx, hb, hml, hown, hts⟩
  obtain ⟨hP, hK⟩ := hPK
  suffices KH : ∀ (H : Heap) (locs : List Loc), PP 1 E q σ H → va_S (Aq q) s.heap H locs → W p l e rm_X1_idleTicks s m args below meth c H locs 0 0 Q (F0 m 0 ls []) from KH s.heap [] hP va_S.rf
  intro H locs hP hS
  have hl : lv_has ls 2 [(0, .ref (q 0)), (1, .int c9)] := hl
  have hI0 := hI
  refine lv_aload_n hx hb dX1_idleTicks_0 rfl (lv_at hl 0 rfl) ?_
  refine lv_aload_n hx hb dX1_idleTicks_1 rfl (lv_at hl 0 rfl) ?_
  refine lv_iload_n hx hb dX1_idleTicks_2 rfl (lv_at hl 1 rfl) ?_
  refine cl_RI (k_X1_noCpu l E q hq hT hC σ hI c9 ) gw_X1_125 hd_X1_noCpu ⟨rfl, rfl⟩ S0 hK hP (rest := [.ref (q 0)]) rfl hl.1 (Nat.le_of_ble_eq_true rfl) ⟨(Nat.le_of_ble_eq_true rfl), (Nat.le_of_ble_eq_true rfl)⟩ ⟨Nat.zero_le _, Nat.zero_le _⟩ dX1_idleTicks_3 (fun hex => ?_)
  refine lv_iconst (v := 0) hx hb dX1_idleTicks_6 (by decide) ?_
  refine cl_WI (k_X1_isRefused l E q hq hT hC σ hI (f_X1_noCpu T C σ c9) 0 ) gw_X1_78 hd_X1_isRefused ⟨rfl, rfl⟩ S0 hK hP hS (rest := []) rfl hl.1 (Nat.le_of_ble_eq_true rfl) ⟨(Nat.le_of_ble_eq_true rfl), (Nat.le_of_ble_eq_true rfl)⟩ ⟨Nat.zero_le _, Nat.zero_le _⟩ dX1_idleTicks_7 (fun H locs hP hS hex => ?_)
  obtain ⟨hI, -⟩ := hex
  refine cutG (fun ls H locs st => ∃ y0 : Int32, y0 = (if (f_X1_isRefused T C σ (f_X1_noCpu T C σ c9) 0) = 0 then ((g_X1_isRefused T C σ (f_X1_noCpu T C σ c9) 0).1 10 (ix c9)) else 0) ∧ st = [.int y0] ∧ lv_has ls 2 [(0, .ref (q 0)), (1, .int c9)] ∧ PP 1 E q (g_X1_isRefused T C σ (f_X1_noCpu T C σ c9) 0) H ∧ va_S (Aq q) s.heap H locs ∧ Inv T C (g_X1_isRefused T C σ (f_X1_noCpu T C σ c9) 0)) 23 (fun ls H locs st hKp => ?_) (fun K10 => ?_)
  · revert hKp
    refine ex_eq (fun hKp => ?_)
    obtain ⟨rfl, hl, hP, hS, hI⟩ := hKp
    exact rt_WI hQ hx hb hr hlocks (Eq.subst (motive := fun z => PP 1 E q z H) (show (g_X1_isRefused T C σ (f_X1_noCpu T C σ c9) 0) = (g_X1_idleTicks T C σ c9) from rfl) hP) hS ⟨rfl, ⟨Eq.subst (motive := fun z => Inv T C z) (show (g_X1_isRefused T C σ (f_X1_noCpu T C σ c9) 0) = (g_X1_idleTicks T C σ c9) from rfl) hI, trivial⟩⟩ dX1_idleTicks_23
  · refine lv_if_eq (tgt := 17) hx hb dX1_idleTicks_10 (by decide) (fun h10 => ?_) (fun h10 => ?_)
    · skip
      refine lv_aload_n hx hb dX1_idleTicks_17 rfl (lv_at hl 0 rfl) ?_
      refine gf_X1_25 hx hb hts hown hK hP dX1_idleTicks_18 ?_
      refine lv_iload_n hx hb dX1_idleTicks_21 rfl (lv_at hl 1 rfl) ?_
      refine ld_10 hx hb hK hP (inC hI0 hC (ref0 h10).1) dX1_idleTicks_22 ?_
      exact K10 _ _ _ _ ⟨((g_X1_isRefused T C σ (f_X1_noCpu T C σ c9) 0).1 10 (ix c9)), (Eq.symm (if_pos h10)), rfl, lv_sub hl [0, 1] rfl, hP, hS, hI⟩
    · skip
      refine lv_iconst (v := 0) hx hb dX1_idleTicks_13 (by decide) ?_
      refine lv_goto (tgt := 23) hx hb dX1_idleTicks_14 (by decide) ?_
      exact K10 _ _ _ _ ⟨0, (Eq.symm (if_neg h10)), rfl, lv_sub hl [0, 1] rfl, hP, hS, hI⟩
def f_X1_forcedIdleTicks (T C : Nat) (σ : St) (c9 : Int32) : Int32 := (if (f_X1_isRefused T C σ (f_X1_noCpu T C σ c9) 0) = 0 then ((g_X1_isRefused T C σ (f_X1_noCpu T C σ c9) 0).1 11 (ix c9)) else 0)
def g_X1_forcedIdleTicks (T C : Nat) (σ : St) (c9 : Int32) : St := (g_X1_isRefused T C σ (f_X1_noCpu T C σ c9) 0)
def rm_X1_forcedIdleTicks : Room := { frames := 2, cells := 0, slots := 0, locals := 46 }
set_option maxHeartbeats 1600000 in
set_option maxRecDepth 100000 in
theorem k_X1_forcedIdleTicks (l : Launch) (E : Ev) (q : Nat → Nat) (hq : Dq q) {T C : Nat} (hT : T ≤ 16) (hC : 1 ≤ C ∧ C ≤ 4) (σ : St) (hI : Inv T C σ) (c9 : Int32) : WI l 1 E q σ yX1_forcedIdleTicks cX1_forcedIdleTicks 2 (some .int) rm_X1_forcedIdleTicks [.int c9] (f_X1_forcedIdleTicks T C σ c9) (g_X1_forcedIdleTicks T C σ c9) (Inv T C (g_X1_forcedIdleTicks T C σ c9) ∧ True) := by
  refine Met.ofB (by decide) (Nat.le_of_ble_eq_true rfl) (fun p e s m args below meth c ls Q B hQ hPK hl => ?_)
  obtain ⟨hx, hb, hml, hr, hlocks, hown, hts⟩ := B
  have S0 : Fx p m c cX1_forcedIdleTicks 2 s args RX1 := ⟨hx, hb, hml, hown, hts⟩
  obtain ⟨hP, hK⟩ := hPK
  suffices KH : ∀ (H : Heap) (locs : List Loc), PP 1 E q σ H → va_S (Aq q) s.heap H locs → W p l e rm_X1_forcedIdleTicks s m args below meth c H locs 0 0 Q (F0 m 0 ls []) from KH s.heap [] hP va_S.rf
  intro H locs hP hS
  have hl : lv_has ls 2 [(0, .ref (q 0)), (1, .int c9)] := hl
  have hI0 := hI
  refine lv_aload_n hx hb dX1_forcedIdleTicks_0 rfl (lv_at hl 0 rfl) ?_
  refine lv_aload_n hx hb dX1_forcedIdleTicks_1 rfl (lv_at hl 0 rfl) ?_
  refine lv_iload_n hx hb dX1_forcedIdleTicks_2 rfl (lv_at hl 1 rfl) ?_
  refine cl_RI (k_X1_noCpu l E q hq hT hC σ hI c9 ) gw_X1_125 hd_X1_noCpu ⟨rfl, rfl⟩ S0 hK hP (rest := [.ref (q 0)]) rfl hl.1 (Nat.le_of_ble_eq_true rfl) ⟨(Nat.le_of_ble_eq_true rfl), (Nat.le_of_ble_eq_true rfl)⟩ ⟨Nat.zero_le _, Nat.zero_le _⟩ dX1_forcedIdleTicks_3 (fun hex => ?_)
  refine lv_iconst (v := 0) hx hb dX1_forcedIdleTicks_6 (by decide) ?_
  refine cl_WI (k_X1_isRefused l E q hq hT hC σ hI (f_X1_noCpu T C σ c9) 0 ) gw_X1_78 hd_X1_isRefused ⟨rfl, rfl⟩ S0 hK hP hS (rest := []) rfl hl.1 (Nat.le_of_ble_eq_true rfl) ⟨(Nat.le_of_ble_eq_true rfl), (Nat.le_of_ble_eq_true rfl)⟩ ⟨Nat.zero_le _, Nat.zero_le _⟩ dX1_forcedIdleTicks_7 (fun H locs hP hS hex => ?_)
  obtain ⟨hI, -⟩ := hex
  refine cutG (fun ls H locs st => ∃ y0 : Int32, y0 = (if (f_X1_isRefused T C σ (f_X1_noCpu T C σ c9) 0) = 0 then ((g_X1_isRefused T C σ (f_X1_noCpu T C σ c9) 0).1 11 (ix c9)) else 0) ∧ st = [.int y0] ∧ lv_has ls 2 [(0, .ref (q 0)), (1, .int c9)] ∧ PP 1 E q (g_X1_isRefused T C σ (f_X1_noCpu T C σ c9) 0) H ∧ va_S (Aq q) s.heap H locs ∧ Inv T C (g_X1_isRefused T C σ (f_X1_noCpu T C σ c9) 0)) 23 (fun ls H locs st hKp => ?_) (fun K10 => ?_)
  · revert hKp
    refine ex_eq (fun hKp => ?_)
    obtain ⟨rfl, hl, hP, hS, hI⟩ := hKp
    exact rt_WI hQ hx hb hr hlocks (Eq.subst (motive := fun z => PP 1 E q z H) (show (g_X1_isRefused T C σ (f_X1_noCpu T C σ c9) 0) = (g_X1_forcedIdleTicks T C σ c9) from rfl) hP) hS ⟨rfl, ⟨Eq.subst (motive := fun z => Inv T C z) (show (g_X1_isRefused T C σ (f_X1_noCpu T C σ c9) 0) = (g_X1_forcedIdleTicks T C σ c9) from rfl) hI, trivial⟩⟩ dX1_forcedIdleTicks_23
  · refine lv_if_eq (tgt := 17) hx hb dX1_forcedIdleTicks_10 (by decide) (fun h10 => ?_) (fun h10 => ?_)
    · skip
      refine lv_aload_n hx hb dX1_forcedIdleTicks_17 rfl (lv_at hl 0 rfl) ?_
      refine gf_X1_28 hx hb hts hown hK hP dX1_forcedIdleTicks_18 ?_
      refine lv_iload_n hx hb dX1_forcedIdleTicks_21 rfl (lv_at hl 1 rfl) ?_
      refine ld_11 hx hb hK hP (inC hI0 hC (ref0 h10).1) dX1_forcedIdleTicks_22 ?_
      exact K10 _ _ _ _ ⟨((g_X1_isRefused T C σ (f_X1_noCpu T C σ c9) 0).1 11 (ix c9)), (Eq.symm (if_pos h10)), rfl, lv_sub hl [0, 1] rfl, hP, hS, hI⟩
    · skip
      refine lv_iconst (v := 0) hx hb dX1_forcedIdleTicks_13 (by decide) ?_
      refine lv_goto (tgt := 23) hx hb dX1_forcedIdleTicks_14 (by decide) ?_
      exact K10 _ _ _ _ ⟨0, (Eq.symm (if_neg h10)), rfl, lv_sub hl [0, 1] rfl, hP, hS, hI⟩
def F_X1_queuedTask_60 (T : Nat) (C : Nat) (σ : St) (c9 : Int32) (x9 : Int32) (i_45 : Nat) : Nat → Int32 → Int32 := fun i_60 z => (z + (if (nI i_60) = (nI i_45) then 0 else (if (f_X1_isRunnable T C (g_X1_isRefused T C σ (f_X1_noCpu T C σ c9) (if (f_X1_noCpu T C σ c9) = 0 then (if (f_X1_in (Int32.toInt64 x9) 0 (Int32.toInt64 ((f_X1_queued T C σ c9) - 1))) = 0 then 1 else 0) else 0)) (nI i_60)) = 0 then 0 else (if ((g_X1_isRefused T C σ (f_X1_noCpu T C σ c9) (if (f_X1_noCpu T C σ c9) = 0 then (if (f_X1_in (Int32.toInt64 x9) 0 (Int32.toInt64 ((f_X1_queued T C σ c9) - 1))) = 0 then 1 else 0) else 0)).1 0 (ix (nI i_60))) = c9 then (if (f_X1_isAhead T C (g_X1_isRefused T C σ (f_X1_noCpu T C σ c9) (if (f_X1_noCpu T C σ c9) = 0 then (if (f_X1_in (Int32.toInt64 x9) 0 (Int32.toInt64 ((f_X1_queued T C σ c9) - 1))) = 0 then 1 else 0) else 0)) (nI i_60) (nI i_45)) = 0 then 0 else 1) else 0))))
def P_X1_queuedTask_45 (T : Nat) (C : Nat) (σ : St) (c9 : Int32) (x9 : Int32) : Nat → Int32 := fun i_45 => (if (f_X1_isRunnable T C (g_X1_isRefused T C σ (f_X1_noCpu T C σ c9) (if (f_X1_noCpu T C σ c9) = 0 then (if (f_X1_in (Int32.toInt64 x9) 0 (Int32.toInt64 ((f_X1_queued T C σ c9) - 1))) = 0 then 1 else 0) else 0)) (nI i_45)) = 0 then 0 else (if ((g_X1_isRefused T C σ (f_X1_noCpu T C σ c9) (if (f_X1_noCpu T C σ c9) = 0 then (if (f_X1_in (Int32.toInt64 x9) 0 (Int32.toInt64 ((f_X1_queued T C σ c9) - 1))) = 0 then 1 else 0) else 0)).1 0 (ix (nI i_45))) = c9 then (if (lp (F_X1_queuedTask_60 T C σ c9 x9 i_45) T 0 0) = x9 then 1 else 0) else 0))
def f_X1_queuedTask (T C : Nat) (σ : St) (c9 : Int32) (x9 : Int32) : Int32 := (if (f_X1_isRefused T C σ (f_X1_noCpu T C σ c9) (if (f_X1_noCpu T C σ c9) = 0 then (if (f_X1_in (Int32.toInt64 x9) 0 (Int32.toInt64 ((f_X1_queued T C σ c9) - 1))) = 0 then 1 else 0) else 0)) = 0 then (fnd (P_X1_queuedTask_45 T C σ c9 x9) T 0 0) else 0)
def g_X1_queuedTask (T C : Nat) (σ : St) (c9 : Int32) (x9 : Int32) : St := (g_X1_isRefused T C σ (f_X1_noCpu T C σ c9) (if (f_X1_noCpu T C σ c9) = 0 then (if (f_X1_in (Int32.toInt64 x9) 0 (Int32.toInt64 ((f_X1_queued T C σ c9) - 1))) = 0 then 1 else 0) else 0))
def rm_X1_queuedTask : Room := { frames := 2, cells := 0, slots := 0, locals := 47 }
set_option maxHeartbeats 1600000 in
set_option maxRecDepth 100000 in
theorem k_X1_queuedTask (l : Launch) (E : Ev) (q : Nat → Nat) (hq : Dq q) {T C : Nat} (hT : T ≤ 16) (hC : 1 ≤ C ∧ C ≤ 4) (σ : St) (hI : Inv T C σ) (c9 : Int32) (x9 : Int32) : WI l 1 E q σ yX1_queuedTask cX1_queuedTask 7 (some .int) rm_X1_queuedTask [.int c9, .int x9] (f_X1_queuedTask T C σ c9 x9) (g_X1_queuedTask T C σ c9 x9) (Inv T C (g_X1_queuedTask T C σ c9 x9) ∧ True) := by
  refine Met.ofB (by decide) (Nat.le_of_ble_eq_true rfl) (fun p e s m args below meth c ls Q B hQ hPK hl => ?_)
  obtain ⟨hx, hb, hml, hr, hlocks, hown, hts⟩ := B
  have S0 : Fx p m c cX1_queuedTask 7 s args RX1 := ⟨hx, hb, hml, hown, hts⟩
  obtain ⟨hP, hK⟩ := hPK
  suffices KH : ∀ (H : Heap) (locs : List Loc), PP 1 E q σ H → va_S (Aq q) s.heap H locs → W p l e rm_X1_queuedTask s m args below meth c H locs 0 0 Q (F0 m 0 ls []) from KH s.heap [] hP va_S.rf
  intro H locs hP hS
  have hl : lv_has ls 7 [(0, .ref (q 0)), (1, .int c9), (2, .int x9)] := hl
  have hI0 := hI
  refine lv_aload_n hx hb dX1_queuedTask_0 rfl (lv_at hl 0 rfl) ?_
  refine lv_iload_n hx hb dX1_queuedTask_1 rfl (lv_at hl 1 rfl) ?_
  refine cl_RI (k_X1_noCpu l E q hq hT hC σ hI c9 ) gw_X1_125 hd_X1_noCpu ⟨rfl, rfl⟩ S0 hK hP (rest := []) rfl hl.1 (Nat.le_of_ble_eq_true rfl) ⟨(Nat.le_of_ble_eq_true rfl), (Nat.le_of_ble_eq_true rfl)⟩ ⟨Nat.zero_le _, Nat.zero_le _⟩ dX1_queuedTask_2 (fun hex => ?_)
  refine lv_istore_n (lv' := [(3, .int (f_X1_noCpu T C σ c9)), (0, .ref (q 0)), (1, .int c9), (2, .int x9)]) hx hb dX1_queuedTask_5 rfl hl (by decide) rfl (fun ls hl => ?_)
  refine lv_aload_n hx hb dX1_queuedTask_6 rfl (lv_at hl 1 rfl) ?_
  refine lv_iload_n hx hb dX1_queuedTask_7 rfl (lv_at hl 0 rfl) ?_
  refine lv_iload_n hx hb dX1_queuedTask_8 rfl (lv_at hl 0 rfl) ?_
  refine cutG (fun ls H locs st => ∃ y0 : Int32, y0 = (if (f_X1_noCpu T C σ c9) = 0 then (if (f_X1_in (Int32.toInt64 x9) 0 (Int32.toInt64 ((f_X1_queued T C σ c9) - 1))) = 0 then 1 else 0) else 0) ∧ st = [.int y0, .int (f_X1_noCpu T C σ c9), .ref (q 0)] ∧ lv_has ls 7 [(3, .int (f_X1_noCpu T C σ c9)), (0, .ref (q 0)), (1, .int c9), (2, .int x9)] ∧ PP 1 E q σ H ∧ va_S (Aq q) s.heap H locs ∧ Inv T C σ) 34 (fun ls H locs st hKp => ?_) (fun K9 => ?_)
  · revert hKp
    refine ex_eq (fun hKp => ?_)
    obtain ⟨rfl, hl, hP, hS, hI⟩ := hKp
    refine cl_WI (k_X1_isRefused l E q hq hT hC σ hI (f_X1_noCpu T C σ c9) (if (f_X1_noCpu T C σ c9) = 0 then (if (f_X1_in (Int32.toInt64 x9) 0 (Int32.toInt64 ((f_X1_queued T C σ c9) - 1))) = 0 then 1 else 0) else 0) ) gw_X1_78 hd_X1_isRefused ⟨rfl, rfl⟩ S0 hK hP hS (rest := []) rfl hl.1 (Nat.le_of_ble_eq_true rfl) ⟨(Nat.le_of_ble_eq_true rfl), (Nat.le_of_ble_eq_true rfl)⟩ ⟨Nat.zero_le _, Nat.zero_le _⟩ dX1_queuedTask_34 (fun H locs hP hS hex => ?_)
    obtain ⟨hI, -⟩ := hex
    refine lv_if_eq (tgt := 42) hx hb dX1_queuedTask_37 (by decide) (fun h37 => ?_) (fun h37 => ?_)
    · skip
      refine lv_iconst (v := 0) hx hb dX1_queuedTask_42 (by decide) ?_
      refine lv_istore (lv' := [(4, .int 0), (3, .int (f_X1_noCpu T C σ c9)), (0, .ref (q 0)), (1, .int c9), (2, .int x9)]) hx hb dX1_queuedTask_43 hl (by decide) rfl (fun ls hl => ?_)
      have L_45 : ∀ (n_45 i_45 : Nat) (ls : Array Slot) (H : Heap) (locs : List Loc), i_45 + n_45 = T → fnd (P_X1_queuedTask_45 T C σ c9 x9) n_45 i_45 0 = (fnd (P_X1_queuedTask_45 T C σ c9 x9) T 0 0) → lv_has ls 7 [(4, .int (nI i_45)), (3, .int (f_X1_noCpu T C σ c9)), (0, .ref (q 0)), (1, .int c9), (2, .int x9)] → PP 1 E q (g_X1_isRefused T C σ (f_X1_noCpu T C σ c9) (if (f_X1_noCpu T C σ c9) = 0 then (if (f_X1_in (Int32.toInt64 x9) 0 (Int32.toInt64 ((f_X1_queued T C σ c9) - 1))) = 0 then 1 else 0) else 0)) H → va_S (Aq q) s.heap H locs → W p l e rm_X1_queuedTask s m args below meth c H locs 0 0 Q (F0 m 45 ls []) := by
        intro n_45
        induction n_45 with
        | zero =>
          intro i_45 ls H locs hi_45 hres_45 hl hP hS
          refine lv_iload hx hb dX1_queuedTask_45 (lv_at hl 0 rfl) ?_
          refine lv_aload_n hx hb dX1_queuedTask_47 rfl (lv_at hl 2 rfl) ?_
          refine gf_X1_69 hx hb hts hown hK hP dX1_queuedTask_48 ?_
          refine lv_icmp_ge (tgt := 158) hx hb dX1_queuedTask_51 (by decide) (fun _ => ?_) (fun h => absurd (lp_out hI.2.1 (by omega) hi_45) h)
          refine lv_iconst (v := 0) hx hb dX1_queuedTask_158 (by decide) ?_
          exact rt_WI hQ hx hb hr hlocks (Eq.subst (motive := fun z => PP 1 E q z H) (show (g_X1_isRefused T C σ (f_X1_noCpu T C σ c9) (if (f_X1_noCpu T C σ c9) = 0 then (if (f_X1_in (Int32.toInt64 x9) 0 (Int32.toInt64 ((f_X1_queued T C σ c9) - 1))) = 0 then 1 else 0) else 0)) = (g_X1_queuedTask T C σ c9 x9) from rfl) hP) hS ⟨(Eq.trans (show 0 = (fnd (P_X1_queuedTask_45 T C σ c9 x9) T 0 0) from hres_45) (Eq.symm (if_pos h37))), ⟨Eq.subst (motive := fun z => Inv T C z) (show (g_X1_isRefused T C σ (f_X1_noCpu T C σ c9) (if (f_X1_noCpu T C σ c9) = 0 then (if (f_X1_in (Int32.toInt64 x9) 0 (Int32.toInt64 ((f_X1_queued T C σ c9) - 1))) = 0 then 1 else 0) else 0)) = (g_X1_queuedTask T C σ c9 x9) from rfl) hI, trivial⟩⟩ dX1_queuedTask_159
        | succ n_45 ih_45 =>
          intro i_45 ls H locs hi_45 hres_45 hl hP hS
          refine lv_iload hx hb dX1_queuedTask_45 (lv_at hl 0 rfl) ?_
          refine lv_aload_n hx hb dX1_queuedTask_47 rfl (lv_at hl 2 rfl) ?_
          refine gf_X1_69 hx hb hts hown hK hP dX1_queuedTask_48 ?_
          refine lv_icmp_ge (tgt := 158) hx hb dX1_queuedTask_51 (by decide) (fun h => absurd h (lp_in hI.2.1 (by omega) hi_45)) (fun _ => ?_)
          refine lv_iconst (v := 0) hx hb dX1_queuedTask_54 (by decide) ?_
          refine lv_istore (lv' := [(5, .int 0), (4, .int (nI i_45)), (3, .int (f_X1_noCpu T C σ c9)), (0, .ref (q 0)), (1, .int c9), (2, .int x9)]) hx hb dX1_queuedTask_55 hl (by decide) rfl (fun ls hl => ?_)
          refine lv_iconst (v := 0) hx hb dX1_queuedTask_57 (by decide) ?_
          refine lv_istore (lv' := [(6, .int 0), (5, .int 0), (4, .int (nI i_45)), (3, .int (f_X1_noCpu T C σ c9)), (0, .ref (q 0)), (1, .int c9), (2, .int x9)]) hx hb dX1_queuedTask_58 hl (by decide) rfl (fun ls hl => ?_)
          have L_60 : ∀ (n_60 i_60 : Nat) (a5_60 : Int32) (ls : Array Slot) (H : Heap) (locs : List Loc), i_60 + n_60 = T → lp (F_X1_queuedTask_60 T C σ c9 x9 i_45) n_60 i_60 a5_60 = (lp (F_X1_queuedTask_60 T C σ c9 x9 i_45) T 0 0) → lv_has ls 7 [(6, .int (nI i_60)), (5, .int a5_60), (4, .int (nI i_45)), (3, .int (f_X1_noCpu T C σ c9)), (0, .ref (q 0)), (1, .int c9), (2, .int x9)] → PP 1 E q (g_X1_isRefused T C σ (f_X1_noCpu T C σ c9) (if (f_X1_noCpu T C σ c9) = 0 then (if (f_X1_in (Int32.toInt64 x9) 0 (Int32.toInt64 ((f_X1_queued T C σ c9) - 1))) = 0 then 1 else 0) else 0)) H → va_S (Aq q) s.heap H locs → W p l e rm_X1_queuedTask s m args below meth c H locs 0 0 Q (F0 m 60 ls []) := by
            intro n_60
            induction n_60 with
            | zero =>
              intro i_60 a5_60 ls H locs hi_60 hres_60 hl hP hS
              have hres : a5_60 = (lp (F_X1_queuedTask_60 T C σ c9 x9 i_45) T 0 0) := hres_60
              subst hres
              refine lv_iload hx hb dX1_queuedTask_60 (lv_at hl 0 rfl) ?_
              refine lv_aload_n hx hb dX1_queuedTask_62 rfl (lv_at hl 4 rfl) ?_
              refine gf_X1_69 hx hb hts hown hK hP dX1_queuedTask_63 ?_
              refine lv_icmp_ge (tgt := 123) hx hb dX1_queuedTask_66 (by decide) (fun _ => ?_) (fun h => absurd (lp_out hI.2.1 (by omega) hi_60) h)
              have hl := lv_sub (l' := [(5, .int (lp (F_X1_queuedTask_60 T C σ c9 x9 i_45) T 0 0)), (4, .int (nI i_45)), (3, .int (f_X1_noCpu T C σ c9)), (0, .ref (q 0)), (1, .int c9), (2, .int x9)]) hl [1, 2, 3, 4, 5, 6] rfl
              refine lv_aload_n hx hb dX1_queuedTask_123 rfl (lv_at hl 3 rfl) ?_
              refine lv_iload hx hb dX1_queuedTask_124 (lv_at hl 1 rfl) ?_
              refine cl_RI (k_X1_isRunnable l E q hq hT hC (g_X1_isRefused T C σ (f_X1_noCpu T C σ c9) (if (f_X1_noCpu T C σ c9) = 0 then (if (f_X1_in (Int32.toInt64 x9) 0 (Int32.toInt64 ((f_X1_queued T C σ c9) - 1))) = 0 then 1 else 0) else 0)) hI (nI i_45) (vp_in_nI (by omega) (by decide))) gw_X1_86 hd_X1_isRunnable ⟨rfl, rfl⟩ S0 hK hP (rest := []) rfl hl.1 (Nat.le_of_ble_eq_true rfl) ⟨(Nat.le_of_ble_eq_true rfl), (Nat.le_of_ble_eq_true rfl)⟩ ⟨Nat.zero_le _, Nat.zero_le _⟩ dX1_queuedTask_126 (fun hex => ?_)
              refine lv_if_eq (tgt := 152) hx hb dX1_queuedTask_129 (by decide) (fun h129 => ?_) (fun h129 => ?_)
              · skip
                refine lv_iinc (v := (nI (i_45 + 1))) (lv' := [(4, .int (nI (i_45 + 1))), (5, .int (lp (F_X1_queuedTask_60 T C σ c9 x9 i_45) T 0 0)), (3, .int (f_X1_noCpu T C σ c9)), (0, .ref (q 0)), (1, .int c9), (2, .int x9)]) hx hb dX1_queuedTask_152 hl (k := 1) rfl (nI_1 _) (by decide) rfl (fun ls hl => ?_)
                refine lv_goto (tgt := 45) hx hb dX1_queuedTask_155 (by decide) ?_
                exact ih_45 (i_45 + 1) ls H locs (by omega) (fnd_n (show (P_X1_queuedTask_45 T C σ c9 x9) i_45 = 0 from (if_pos h129)) hres_45) (lv_sub hl [0, 2, 3, 4, 5] rfl) hP hS
              · skip
                refine lv_aload_n hx hb dX1_queuedTask_132 rfl (lv_at hl 3 rfl) ?_
                refine gf_X1_34 hx hb hts hown hK hP dX1_queuedTask_133 ?_
                refine lv_iload hx hb dX1_queuedTask_136 (lv_at hl 1 rfl) ?_
                refine ld_0 hx hb hK hP (vp_in_nI (by omega) (by decide)) dX1_queuedTask_138 ?_
                refine lv_iload_n hx hb dX1_queuedTask_139 rfl (lv_at hl 4 rfl) ?_
                refine lv_icmp_ne (tgt := 152) hx hb dX1_queuedTask_140 (by decide) (fun h140 => ?_) (fun h140 => ?_)
                · skip
                  refine lv_iinc (v := (nI (i_45 + 1))) (lv' := [(4, .int (nI (i_45 + 1))), (5, .int (lp (F_X1_queuedTask_60 T C σ c9 x9 i_45) T 0 0)), (3, .int (f_X1_noCpu T C σ c9)), (0, .ref (q 0)), (1, .int c9), (2, .int x9)]) hx hb dX1_queuedTask_152 hl (k := 1) rfl (nI_1 _) (by decide) rfl (fun ls hl => ?_)
                  refine lv_goto (tgt := 45) hx hb dX1_queuedTask_155 (by decide) ?_
                  exact ih_45 (i_45 + 1) ls H locs (by omega) (fnd_n (show (P_X1_queuedTask_45 T C σ c9 x9) i_45 = 0 from (Eq.trans (if_neg h129) (if_neg h140))) hres_45) (lv_sub hl [0, 2, 3, 4, 5] rfl) hP hS
                · skip
                  refine lv_iload hx hb dX1_queuedTask_143 (lv_at hl 0 rfl) ?_
                  refine lv_iload_n hx hb dX1_queuedTask_145 rfl (lv_at hl 5 rfl) ?_
                  refine lv_icmp_ne (tgt := 152) hx hb dX1_queuedTask_146 (by decide) (fun h146 => ?_) (fun h146 => ?_)
                  · skip
                    refine lv_iinc (v := (nI (i_45 + 1))) (lv' := [(4, .int (nI (i_45 + 1))), (5, .int (lp (F_X1_queuedTask_60 T C σ c9 x9 i_45) T 0 0)), (3, .int (f_X1_noCpu T C σ c9)), (0, .ref (q 0)), (1, .int c9), (2, .int x9)]) hx hb dX1_queuedTask_152 hl (k := 1) rfl (nI_1 _) (by decide) rfl (fun ls hl => ?_)
                    refine lv_goto (tgt := 45) hx hb dX1_queuedTask_155 (by decide) ?_
                    exact ih_45 (i_45 + 1) ls H locs (by omega) (fnd_n (show (P_X1_queuedTask_45 T C σ c9 x9) i_45 = 0 from (Eq.trans (Eq.trans (if_neg h129) (if_pos h140)) (if_neg h146))) hres_45) (lv_sub hl [0, 2, 3, 4, 5] rfl) hP hS
                  · skip
                    refine lv_iload hx hb dX1_queuedTask_149 (lv_at hl 1 rfl) ?_
                    exact rt_WI hQ hx hb hr hlocks (Eq.subst (motive := fun z => PP 1 E q z H) (show (g_X1_isRefused T C σ (f_X1_noCpu T C σ c9) (if (f_X1_noCpu T C σ c9) = 0 then (if (f_X1_in (Int32.toInt64 x9) 0 (Int32.toInt64 ((f_X1_queued T C σ c9) - 1))) = 0 then 1 else 0) else 0)) = (g_X1_queuedTask T C σ c9 x9) from rfl) hP) hS ⟨(Eq.trans (fnd_y (show (P_X1_queuedTask_45 T C σ c9 x9) i_45 = 1 from (Eq.trans (Eq.trans (if_neg h129) (if_pos h140)) (if_pos h146))) hres_45) (Eq.symm (if_pos h37))), ⟨Eq.subst (motive := fun z => Inv T C z) (show (g_X1_isRefused T C σ (f_X1_noCpu T C σ c9) (if (f_X1_noCpu T C σ c9) = 0 then (if (f_X1_in (Int32.toInt64 x9) 0 (Int32.toInt64 ((f_X1_queued T C σ c9) - 1))) = 0 then 1 else 0) else 0)) = (g_X1_queuedTask T C σ c9 x9) from rfl) hI, trivial⟩⟩ dX1_queuedTask_151
            | succ n_60 ih_60 =>
              intro i_60 a5_60 ls H locs hi_60 hres_60 hl hP hS
              refine lv_iload hx hb dX1_queuedTask_60 (lv_at hl 0 rfl) ?_
              refine lv_aload_n hx hb dX1_queuedTask_62 rfl (lv_at hl 4 rfl) ?_
              refine gf_X1_69 hx hb hts hown hK hP dX1_queuedTask_63 ?_
              refine lv_icmp_ge (tgt := 123) hx hb dX1_queuedTask_66 (by decide) (fun h => absurd h (lp_in hI.2.1 (by omega) hi_60)) (fun _ => ?_)
              refine lv_iload hx hb dX1_queuedTask_69 (lv_at hl 1 rfl) ?_
              refine lv_iload hx hb dX1_queuedTask_71 (lv_at hl 0 rfl) ?_
              refine lv_iload hx hb dX1_queuedTask_73 (lv_at hl 2 rfl) ?_
              refine cutG (fun ls H locs st => ∃ y0 : Int32, y0 = (if (nI i_60) = (nI i_45) then 0 else (if (f_X1_isRunnable T C (g_X1_isRefused T C σ (f_X1_noCpu T C σ c9) (if (f_X1_noCpu T C σ c9) = 0 then (if (f_X1_in (Int32.toInt64 x9) 0 (Int32.toInt64 ((f_X1_queued T C σ c9) - 1))) = 0 then 1 else 0) else 0)) (nI i_60)) = 0 then 0 else (if ((g_X1_isRefused T C σ (f_X1_noCpu T C σ c9) (if (f_X1_noCpu T C σ c9) = 0 then (if (f_X1_in (Int32.toInt64 x9) 0 (Int32.toInt64 ((f_X1_queued T C σ c9) - 1))) = 0 then 1 else 0) else 0)).1 0 (ix (nI i_60))) = c9 then (if (f_X1_isAhead T C (g_X1_isRefused T C σ (f_X1_noCpu T C σ c9) (if (f_X1_noCpu T C σ c9) = 0 then (if (f_X1_in (Int32.toInt64 x9) 0 (Int32.toInt64 ((f_X1_queued T C σ c9) - 1))) = 0 then 1 else 0) else 0)) (nI i_60) (nI i_45)) = 0 then 0 else 1) else 0))) ∧ st = [.int y0, .int a5_60] ∧ lv_has ls 7 [(6, .int (nI i_60)), (5, .int a5_60), (4, .int (nI i_45)), (3, .int (f_X1_noCpu T C σ c9)), (0, .ref (q 0)), (1, .int c9), (2, .int x9)] ∧ PP 1 E q (g_X1_isRefused T C σ (f_X1_noCpu T C σ c9) (if (f_X1_noCpu T C σ c9) = 0 then (if (f_X1_in (Int32.toInt64 x9) 0 (Int32.toInt64 ((f_X1_queued T C σ c9) - 1))) = 0 then 1 else 0) else 0)) H ∧ va_S (Aq q) s.heap H locs ∧ Inv T C (g_X1_isRefused T C σ (f_X1_noCpu T C σ c9) (if (f_X1_noCpu T C σ c9) = 0 then (if (f_X1_in (Int32.toInt64 x9) 0 (Int32.toInt64 ((f_X1_queued T C σ c9) - 1))) = 0 then 1 else 0) else 0))) 114 (fun ls H locs st hKp => ?_) (fun K75 => ?_)
              · revert hKp
                refine ex_eq (fun hKp => ?_)
                obtain ⟨rfl, hl, hP, hS, hI⟩ := hKp
                refine lv_iadd hx hb dX1_queuedTask_114 ?_
                refine lv_istore (lv' := [(5, .int (a5_60 + (if (nI i_60) = (nI i_45) then 0 else (if (f_X1_isRunnable T C (g_X1_isRefused T C σ (f_X1_noCpu T C σ c9) (if (f_X1_noCpu T C σ c9) = 0 then (if (f_X1_in (Int32.toInt64 x9) 0 (Int32.toInt64 ((f_X1_queued T C σ c9) - 1))) = 0 then 1 else 0) else 0)) (nI i_60)) = 0 then 0 else (if ((g_X1_isRefused T C σ (f_X1_noCpu T C σ c9) (if (f_X1_noCpu T C σ c9) = 0 then (if (f_X1_in (Int32.toInt64 x9) 0 (Int32.toInt64 ((f_X1_queued T C σ c9) - 1))) = 0 then 1 else 0) else 0)).1 0 (ix (nI i_60))) = c9 then (if (f_X1_isAhead T C (g_X1_isRefused T C σ (f_X1_noCpu T C σ c9) (if (f_X1_noCpu T C σ c9) = 0 then (if (f_X1_in (Int32.toInt64 x9) 0 (Int32.toInt64 ((f_X1_queued T C σ c9) - 1))) = 0 then 1 else 0) else 0)) (nI i_60) (nI i_45)) = 0 then 0 else 1) else 0))))), (6, .int (nI i_60)), (4, .int (nI i_45)), (3, .int (f_X1_noCpu T C σ c9)), (0, .ref (q 0)), (1, .int c9), (2, .int x9)]) hx hb dX1_queuedTask_115 hl (by decide) rfl (fun ls hl => ?_)
                refine lv_iinc (v := (nI (i_60 + 1))) (lv' := [(6, .int (nI (i_60 + 1))), (5, .int (a5_60 + (if (nI i_60) = (nI i_45) then 0 else (if (f_X1_isRunnable T C (g_X1_isRefused T C σ (f_X1_noCpu T C σ c9) (if (f_X1_noCpu T C σ c9) = 0 then (if (f_X1_in (Int32.toInt64 x9) 0 (Int32.toInt64 ((f_X1_queued T C σ c9) - 1))) = 0 then 1 else 0) else 0)) (nI i_60)) = 0 then 0 else (if ((g_X1_isRefused T C σ (f_X1_noCpu T C σ c9) (if (f_X1_noCpu T C σ c9) = 0 then (if (f_X1_in (Int32.toInt64 x9) 0 (Int32.toInt64 ((f_X1_queued T C σ c9) - 1))) = 0 then 1 else 0) else 0)).1 0 (ix (nI i_60))) = c9 then (if (f_X1_isAhead T C (g_X1_isRefused T C σ (f_X1_noCpu T C σ c9) (if (f_X1_noCpu T C σ c9) = 0 then (if (f_X1_in (Int32.toInt64 x9) 0 (Int32.toInt64 ((f_X1_queued T C σ c9) - 1))) = 0 then 1 else 0) else 0)) (nI i_60) (nI i_45)) = 0 then 0 else 1) else 0))))), (4, .int (nI i_45)), (3, .int (f_X1_noCpu T C σ c9)), (0, .ref (q 0)), (1, .int c9), (2, .int x9)]) hx hb dX1_queuedTask_117 hl (k := 1) rfl (nI_1 _) (by decide) rfl (fun ls hl => ?_)
                refine lv_goto (tgt := 60) hx hb dX1_queuedTask_120 (by decide) ?_
                exact ih_60 (i_60 + 1) (a5_60 + (if (nI i_60) = (nI i_45) then 0 else (if (f_X1_isRunnable T C (g_X1_isRefused T C σ (f_X1_noCpu T C σ c9) (if (f_X1_noCpu T C σ c9) = 0 then (if (f_X1_in (Int32.toInt64 x9) 0 (Int32.toInt64 ((f_X1_queued T C σ c9) - 1))) = 0 then 1 else 0) else 0)) (nI i_60)) = 0 then 0 else (if ((g_X1_isRefused T C σ (f_X1_noCpu T C σ c9) (if (f_X1_noCpu T C σ c9) = 0 then (if (f_X1_in (Int32.toInt64 x9) 0 (Int32.toInt64 ((f_X1_queued T C σ c9) - 1))) = 0 then 1 else 0) else 0)).1 0 (ix (nI i_60))) = c9 then (if (f_X1_isAhead T C (g_X1_isRefused T C σ (f_X1_noCpu T C σ c9) (if (f_X1_noCpu T C σ c9) = 0 then (if (f_X1_in (Int32.toInt64 x9) 0 (Int32.toInt64 ((f_X1_queued T C σ c9) - 1))) = 0 then 1 else 0) else 0)) (nI i_60) (nI i_45)) = 0 then 0 else 1) else 0)))) ls H locs (by omega) hres_60 (lv_sub (l' := [(6, .int (nI (i_60 + 1))), (5, .int (a5_60 + (if (nI i_60) = (nI i_45) then 0 else (if (f_X1_isRunnable T C (g_X1_isRefused T C σ (f_X1_noCpu T C σ c9) (if (f_X1_noCpu T C σ c9) = 0 then (if (f_X1_in (Int32.toInt64 x9) 0 (Int32.toInt64 ((f_X1_queued T C σ c9) - 1))) = 0 then 1 else 0) else 0)) (nI i_60)) = 0 then 0 else (if ((g_X1_isRefused T C σ (f_X1_noCpu T C σ c9) (if (f_X1_noCpu T C σ c9) = 0 then (if (f_X1_in (Int32.toInt64 x9) 0 (Int32.toInt64 ((f_X1_queued T C σ c9) - 1))) = 0 then 1 else 0) else 0)).1 0 (ix (nI i_60))) = c9 then (if (f_X1_isAhead T C (g_X1_isRefused T C σ (f_X1_noCpu T C σ c9) (if (f_X1_noCpu T C σ c9) = 0 then (if (f_X1_in (Int32.toInt64 x9) 0 (Int32.toInt64 ((f_X1_queued T C σ c9) - 1))) = 0 then 1 else 0) else 0)) (nI i_60) (nI i_45)) = 0 then 0 else 1) else 0))))), (4, .int (nI i_45)), (3, .int (f_X1_noCpu T C σ c9)), (0, .ref (q 0)), (1, .int c9), (2, .int x9)]) hl [0, 1, 2, 3, 4, 5, 6] rfl) hP hS
              · refine lv_icmp_eq (tgt := 113) hx hb dX1_queuedTask_75 (by decide) (fun h75 => ?_) (fun h75 => ?_)
                · skip
                  refine lv_iconst (v := 0) hx hb dX1_queuedTask_113 (by decide) ?_
                  exact K75 _ _ _ _ ⟨0, (Eq.symm (if_pos h75)), rfl, lv_sub hl [0, 1, 2, 3, 4, 5, 6] rfl, hP, hS, hI⟩
                · skip
                  refine lv_aload_n hx hb dX1_queuedTask_78 rfl (lv_at hl 4 rfl) ?_
                  refine lv_iload hx hb dX1_queuedTask_79 (lv_at hl 0 rfl) ?_
                  refine cl_RI (k_X1_isRunnable l E q hq hT hC (g_X1_isRefused T C σ (f_X1_noCpu T C σ c9) (if (f_X1_noCpu T C σ c9) = 0 then (if (f_X1_in (Int32.toInt64 x9) 0 (Int32.toInt64 ((f_X1_queued T C σ c9) - 1))) = 0 then 1 else 0) else 0)) hI (nI i_60) (vp_in_nI (by omega) (by decide))) gw_X1_86 hd_X1_isRunnable ⟨rfl, rfl⟩ S0 hK hP (rest := [.int a5_60]) rfl hl.1 (Nat.le_of_ble_eq_true rfl) ⟨(Nat.le_of_ble_eq_true rfl), (Nat.le_of_ble_eq_true rfl)⟩ ⟨Nat.zero_le _, Nat.zero_le _⟩ dX1_queuedTask_81 (fun hex => ?_)
                  refine lv_if_eq (tgt := 113) hx hb dX1_queuedTask_84 (by decide) (fun h84 => ?_) (fun h84 => ?_)
                  · skip
                    refine lv_iconst (v := 0) hx hb dX1_queuedTask_113 (by decide) ?_
                    exact K75 _ _ _ _ ⟨0, (Eq.symm (Eq.trans (if_neg h75) (if_pos h84))), rfl, lv_sub hl [0, 1, 2, 3, 4, 5, 6] rfl, hP, hS, hI⟩
                  · skip
                    refine lv_aload_n hx hb dX1_queuedTask_87 rfl (lv_at hl 4 rfl) ?_
                    refine gf_X1_34 hx hb hts hown hK hP dX1_queuedTask_88 ?_
                    refine lv_iload hx hb dX1_queuedTask_91 (lv_at hl 0 rfl) ?_
                    refine ld_0 hx hb hK hP (vp_in_nI (by omega) (by decide)) dX1_queuedTask_93 ?_
                    refine lv_iload_n hx hb dX1_queuedTask_94 rfl (lv_at hl 5 rfl) ?_
                    refine lv_icmp_ne (tgt := 113) hx hb dX1_queuedTask_95 (by decide) (fun h95 => ?_) (fun h95 => ?_)
                    · skip
                      refine lv_iconst (v := 0) hx hb dX1_queuedTask_113 (by decide) ?_
                      exact K75 _ _ _ _ ⟨0, (Eq.symm (Eq.trans (Eq.trans (if_neg h75) (if_neg h84)) (if_neg h95))), rfl, lv_sub hl [0, 1, 2, 3, 4, 5, 6] rfl, hP, hS, hI⟩
                    · skip
                      refine lv_aload_n hx hb dX1_queuedTask_98 rfl (lv_at hl 4 rfl) ?_
                      refine lv_iload hx hb dX1_queuedTask_99 (lv_at hl 0 rfl) ?_
                      refine lv_iload hx hb dX1_queuedTask_101 (lv_at hl 2 rfl) ?_
                      refine cl_RI (k_X1_isAhead l E q hq hT hC (g_X1_isRefused T C σ (f_X1_noCpu T C σ c9) (if (f_X1_noCpu T C σ c9) = 0 then (if (f_X1_in (Int32.toInt64 x9) 0 (Int32.toInt64 ((f_X1_queued T C σ c9) - 1))) = 0 then 1 else 0) else 0)) hI (nI i_60) (nI i_45) (vp_in_nI (by omega) (by decide)) (vo_nI (by omega))) gw_X1_90 hd_X1_isAhead ⟨rfl, rfl⟩ S0 hK hP (rest := [.int a5_60]) rfl hl.1 (Nat.le_of_ble_eq_true rfl) ⟨(Nat.le_of_ble_eq_true rfl), (Nat.le_of_ble_eq_true rfl)⟩ ⟨Nat.zero_le _, Nat.zero_le _⟩ dX1_queuedTask_103 (fun hex => ?_)
                      refine lv_if_eq (tgt := 113) hx hb dX1_queuedTask_106 (by decide) (fun h106 => ?_) (fun h106 => ?_)
                      · skip
                        refine lv_iconst (v := 0) hx hb dX1_queuedTask_113 (by decide) ?_
                        exact K75 _ _ _ _ ⟨0, (Eq.symm (Eq.trans (Eq.trans (Eq.trans (if_neg h75) (if_neg h84)) (if_pos h95)) (if_pos h106))), rfl, lv_sub hl [0, 1, 2, 3, 4, 5, 6] rfl, hP, hS, hI⟩
                      · skip
                        refine lv_iconst (v := 1) hx hb dX1_queuedTask_109 (by decide) ?_
                        refine lv_goto (tgt := 114) hx hb dX1_queuedTask_110 (by decide) ?_
                        exact K75 _ _ _ _ ⟨1, (Eq.symm (Eq.trans (Eq.trans (Eq.trans (if_neg h75) (if_neg h84)) (if_pos h95)) (if_neg h106))), rfl, lv_sub hl [0, 1, 2, 3, 4, 5, 6] rfl, hP, hS, hI⟩
          exact L_60 T 0 0 ls H locs (Nat.zero_add T) rfl (lv_sub hl [0, 1, 2, 3, 4, 5, 6] rfl) hP hS
      exact L_45 T 0 ls H locs (Nat.zero_add T) rfl (lv_sub hl [0, 1, 2, 3, 4] rfl) hP hS
    · skip
      refine lv_iconst (v := 0) hx hb dX1_queuedTask_40 (by decide) ?_
      exact rt_WI hQ hx hb hr hlocks (Eq.subst (motive := fun z => PP 1 E q z H) (show (g_X1_isRefused T C σ (f_X1_noCpu T C σ c9) (if (f_X1_noCpu T C σ c9) = 0 then (if (f_X1_in (Int32.toInt64 x9) 0 (Int32.toInt64 ((f_X1_queued T C σ c9) - 1))) = 0 then 1 else 0) else 0)) = (g_X1_queuedTask T C σ c9 x9) from rfl) hP) hS ⟨(Eq.symm (if_neg h37)), ⟨Eq.subst (motive := fun z => Inv T C z) (show (g_X1_isRefused T C σ (f_X1_noCpu T C σ c9) (if (f_X1_noCpu T C σ c9) = 0 then (if (f_X1_in (Int32.toInt64 x9) 0 (Int32.toInt64 ((f_X1_queued T C σ c9) - 1))) = 0 then 1 else 0) else 0)) = (g_X1_queuedTask T C σ c9 x9) from rfl) hI, trivial⟩⟩ dX1_queuedTask_41
  · refine lv_if_ne (tgt := 33) hx hb dX1_queuedTask_9 (by decide) (fun h9 => ?_) (fun h9 => ?_)
    · skip
      refine lv_iconst (v := 0) hx hb dX1_queuedTask_33 (by decide) ?_
      exact K9 _ _ _ _ ⟨0, (Eq.symm (if_neg h9)), rfl, lv_sub hl [0, 1, 2, 3] rfl, hP, hS, hI⟩
    · skip
      refine lv_iload_n hx hb dX1_queuedTask_12 rfl (lv_at hl 3 rfl) ?_
      refine lv_i2l (v := Int32.toInt64 x9) hx hb dX1_queuedTask_13 rfl ?_
      refine lv_lconst (v := 0) hx hb dX1_queuedTask_14 (by decide) ?_
      refine lv_aload_n hx hb dX1_queuedTask_15 rfl (lv_at hl 1 rfl) ?_
      refine lv_iload_n hx hb dX1_queuedTask_16 rfl (lv_at hl 2 rfl) ?_
      refine cl_RI (k_X1_queued l E q hq hT hC σ hI c9 ) gw_X1_109 hd_X1_queued ⟨rfl, rfl⟩ S0 hK hP (rest := [.long 0, .long (Int32.toInt64 x9), .int (f_X1_noCpu T C σ c9), .ref (q 0)]) rfl hl.1 (Nat.le_of_ble_eq_true rfl) ⟨(Nat.le_of_ble_eq_true rfl), (Nat.le_of_ble_eq_true rfl)⟩ ⟨Nat.zero_le _, Nat.zero_le _⟩ dX1_queuedTask_17 (fun hex => ?_)
      refine lv_iconst (v := 1) hx hb dX1_queuedTask_20 (by decide) ?_
      refine lv_isub hx hb dX1_queuedTask_21 ?_
      refine lv_i2l (v := Int32.toInt64 ((f_X1_queued T C σ c9) - 1)) hx hb dX1_queuedTask_22 rfl ?_
      refine cl_NI (k_X1_in l (Int32.toInt64 x9) 0 (Int32.toInt64 ((f_X1_queued T C σ c9) - 1))) gw_X1_72 hd_X1_in ⟨rfl, rfl⟩ S0 (rest := [.int (f_X1_noCpu T C σ c9), .ref (q 0)]) rfl hl.1 (Nat.le_of_ble_eq_true rfl) ⟨(Nat.le_of_ble_eq_true rfl), (Nat.le_of_ble_eq_true rfl)⟩ ⟨Nat.zero_le _, Nat.zero_le _⟩ dX1_queuedTask_23 ?_
      refine lv_if_ne (tgt := 33) hx hb dX1_queuedTask_26 (by decide) (fun h26 => ?_) (fun h26 => ?_)
      · skip
        refine lv_iconst (v := 0) hx hb dX1_queuedTask_33 (by decide) ?_
        exact K9 _ _ _ _ ⟨0, (Eq.symm (Eq.trans (if_pos h9) (if_neg h26))), rfl, lv_sub hl [0, 1, 2, 3] rfl, hP, hS, hI⟩
      · skip
        refine lv_iconst (v := 1) hx hb dX1_queuedTask_29 (by decide) ?_
        refine lv_goto (tgt := 34) hx hb dX1_queuedTask_30 (by decide) ?_
        exact K9 _ _ _ _ ⟨1, (Eq.symm (Eq.trans (if_pos h9) (if_pos h26))), rfl, lv_sub hl [0, 1, 2, 3] rfl, hP, hS, hI⟩
