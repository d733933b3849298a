theorem wne {T C : Nat} {σ : St} {i : Nat} (hI : Inv T C σ) (h : i < T) (hT : T ≤ 16) : ¬ (σ.1 1 (ix (nI i))) = 0 := by
  have e : ix (nI i) = i := nI_clamp (by omega)
  rw [e]
  exact divne (hI.2.2.2 i h)
def f_X1_in (v9 : Int64) (l9 : Int64) (u9 : Int64) : Int32 := (if (lg_cmp v9 l9) < 0 then 0 else (if 0 < (lg_cmp v9 u9) then 0 else 1))
def rm_X1_in : Room := { frames := 0, cells := 0, slots := 0, locals := 0 }
set_option maxHeartbeats 1600000 in
set_option maxRecDepth 100000 in
theorem k_X1_in (l : Launch) (v9 : Int64) (l9 : Int64) (u9 : Int64) : NI l yX1_in cX1_in 6 (some .boolean) rm_X1_in [.long v9, .long l9, .long u9] (f_X1_in v9 l9 u9) := by
  refine Met.ofB (by decide) (Nat.le_of_ble_eq_true rfl) (fun p e s m args below meth c ls Q B hQ hPK hl => ?_)
  obtain ⟨hx, hb, hml, hr, hlocks, hown, hts⟩ := B
  have S0 : Fx p m c cX1_in 6 s args RX1 := ⟨hx, hb, hml, hown, hts⟩
  have hl : lv_has ls 6 [(0, .long v9), (2, .long l9), (4, .long u9)] := hl
  refine lv_lload_n hx hb dX1_in_0 rfl (lv_at hl 0 rfl) ?_
  refine lv_lload_n hx hb dX1_in_1 rfl (lv_at hl 1 rfl) ?_
  refine W.lcmp hx hb dX1_in_2 ?_
  refine cutG (fun ls H locs st => ∃ y0 : Int32, y0 = (if (lg_cmp v9 l9) < 0 then 0 else (if 0 < (lg_cmp v9 u9) then 0 else 1)) ∧ st = [.int y0] ∧ lv_has ls 6 [(0, .long v9), (2, .long l9), (4, .long u9)] ∧ H = s.heap ∧ locs = []) 18 (fun ls H locs st hKp => ?_) (fun K3 => ?_)
  · revert hKp
    refine ex_eq (fun hKp => ?_)
    obtain ⟨rfl, hl, rfl, rfl⟩ := hKp
    exact rt_NZ hQ hx hb hr hlocks (nb_ite nb_0 (nb_ite nb_0 nb_1)) rfl dX1_in_18
  · refine lv_if_lt (tgt := 17) hx hb dX1_in_3 (by decide) (fun h3 => ?_) (fun h3 => ?_)
    · skip
      refine lv_iconst (v := 0) hx hb dX1_in_17 (by decide) ?_
      exact K3 _ _ _ _ ⟨0, (Eq.symm (if_pos h3)), rfl, lv_sub hl [0, 1, 2] rfl, rfl, rfl⟩
    · skip
      refine lv_lload_n hx hb dX1_in_6 rfl (lv_at hl 0 rfl) ?_
      refine lv_lload hx hb dX1_in_7 (lv_at hl 2 rfl) ?_
      refine W.lcmp hx hb dX1_in_9 ?_
      refine lv_if_gt (tgt := 17) hx hb dX1_in_10 (by decide) (fun h10 => ?_) (fun h10 => ?_)
      · skip
        refine lv_iconst (v := 0) hx hb dX1_in_17 (by decide) ?_
        exact K3 _ _ _ _ ⟨0, (Eq.symm (Eq.trans (if_neg h3) (if_pos h10))), rfl, lv_sub hl [0, 1, 2] rfl, rfl, rfl⟩
      · skip
        refine lv_iconst (v := 1) hx hb dX1_in_13 (by decide) ?_
        refine lv_goto (tgt := 18) hx hb dX1_in_14 (by decide) ?_
        exact K3 _ _ _ _ ⟨1, (Eq.symm (Eq.trans (if_neg h3) (if_neg h10))), rfl, lv_sub hl [0, 1, 2] rfl, rfl, rfl⟩
def F_X1_begins_22 : Nat → St → St := fun i_22 z => (sI (sI (sI (sI (sJ z 7 (ix (nI i_22)) 0) 8 (ix (nI i_22)) (-1)) 9 (ix (nI i_22)) (vp_nar .boolean 0)) 10 (ix (nI i_22)) 0) 11 (ix (nI i_22)) 0)
def F_X1_begins_71 : Nat → St → St := fun i_71 z => (sI z 12 (ix (nI i_71)) (-1))
def g_X1_begins (T C : Nat) (σ : St) (n9 : Int32) : St := (lp F_X1_begins_71 4 0 (lp F_X1_begins_22 8 0 (sS (sS (sS (sS σ 13 n9) 16 0) 15 0) 14 0)))
def rm_X1_begins : Room := { frames := 0, cells := 0, slots := 0, locals := 0 }
set_option maxHeartbeats 1600000 in
set_option maxRecDepth 100000 in
theorem k_X1_begins (l : Launch) (E : Ev) (q : Nat → Nat) (hq : Dq q) {T C : Nat} (hT : T ≤ 16) (hC : 1 ≤ C ∧ C ≤ 4) (σ : St) (n9 : Int32) : WV l 1 E q σ yX1_begins cX1_begins 3 none rm_X1_begins [.int n9] (g_X1_begins T C σ n9) True := by
  refine Met.ofB (by decide) (Nat.le_of_ble_eq_true rfl) (fun p e s m args below meth c ls Q B hQ hPK hl => ?_)
  obtain ⟨hx, hb, hml, hr, hlocks, hown, hts⟩ := B
  have S0 : Fx p m c cX1_begins 3 s args RX1 := ⟨hx, hb, hml, hown, hts⟩
  obtain ⟨hP, hK⟩ := hPK
  suffices KH : ∀ (H : Heap) (locs : List Loc), PP 1 E q σ H → va_S (Aq q) s.heap H locs → W p l e rm_X1_begins s m args below meth c H locs 0 0 Q (F0 m 0 ls []) from KH s.heap [] hP va_S.rf
  intro H locs hP hS
  have hl : lv_has ls 3 [(0, .ref (q 0)), (1, .int n9)] := hl
  refine lv_aload_n hx hb dX1_begins_0 rfl (lv_at hl 0 rfl) ?_
  refine lv_iload_n hx hb dX1_begins_1 rfl (lv_at hl 1 rfl) ?_
  refine pf_X1_7 hx hb hts hown hK hq hP hS dX1_begins_2 (fun H locs hP hS => ?_)
  refine lv_aload_n hx hb dX1_begins_5 rfl (lv_at hl 0 rfl) ?_
  refine lv_iconst (v := 0) hx hb dX1_begins_6 (by decide) ?_
  refine pf_X1_62 hx hb hts hown hK hq hP hS (nbf (by first | assumption | decide)) dX1_begins_7 (fun H locs hP hS => ?_)
  refine lv_aload_n hx hb dX1_begins_10 rfl (lv_at hl 0 rfl) ?_
  refine lv_iconst (v := 0) hx hb dX1_begins_11 (by decide) ?_
  refine pf_X1_66 hx hb hts hown hK hq hP hS dX1_begins_12 (fun H locs hP hS => ?_)
  refine lv_aload_n hx hb dX1_begins_15 rfl (lv_at hl 0 rfl) ?_
  refine lv_iconst (v := 0) hx hb dX1_begins_16 (by decide) ?_
  refine pf_X1_69 hx hb hts hown hK hq hP hS dX1_begins_17 (fun H locs hP hS => ?_)
  refine lv_iconst (v := 0) hx hb dX1_begins_20 (by decide) ?_
  refine lv_istore_n (lv' := [(2, .int 0), (0, .ref (q 0)), (1, .int n9)]) hx hb dX1_begins_21 rfl hl (by decide) rfl (fun ls hl => ?_)
  have L_22 : ∀ (n_22 i_22 : Nat) (τ_22 : St) (ls : Array Slot) (H : Heap) (locs : List Loc), i_22 + n_22 = 8 → lp F_X1_begins_22 n_22 i_22 τ_22 = (lp F_X1_begins_22 8 0 (sS (sS (sS (sS σ 13 n9) 16 0) 15 0) 14 0)) → lv_has ls 3 [(2, .int (nI i_22)), (0, .ref (q 0)), (1, .int n9)] → PP 1 E q τ_22 H → va_S (Aq q) s.heap H locs → W p l e rm_X1_begins s m args below meth c H locs 0 0 Q (F0 m 22 ls []) := by
    intro n_22
    induction n_22 with
    | zero =>
      intro i_22 τ_22 ls H locs hi_22 hres_22 hl hP hS
      have hres : τ_22 = (lp F_X1_begins_22 8 0 (sS (sS (sS (sS σ 13 n9) 16 0) 15 0) 14 0)) := hres_22
      subst hres
      refine lv_iload_n hx hb dX1_begins_22 rfl (lv_at hl 0 rfl) ?_
      refine lv_bipush (v := 8) hx hb dX1_begins_23 (by decide) ?_
      refine lv_icmp_ge (tgt := 69) hx hb dX1_begins_25 (by decide) (fun _ => ?_) (fun h => absurd (lp_out (show (8 : Int32) = nI 8 from rfl) (by omega) hi_22) h)
      have hl := lv_sub (l' := [(0, .ref (q 0)), (1, .int n9)]) hl [1, 2] rfl
      refine lv_iconst (v := 0) hx hb dX1_begins_69 (by decide) ?_
      refine lv_istore_n (lv' := [(2, .int 0), (0, .ref (q 0)), (1, .int n9)]) hx hb dX1_begins_70 rfl hl (by decide) rfl (fun ls hl => ?_)
      have L_71 : ∀ (n_71 i_71 : Nat) (τ_71 : St) (ls : Array Slot) (H : Heap) (locs : List Loc), i_71 + n_71 = 4 → lp F_X1_begins_71 n_71 i_71 τ_71 = (lp F_X1_begins_71 4 0 (lp F_X1_begins_22 8 0 (sS (sS (sS (sS σ 13 n9) 16 0) 15 0) 14 0))) → lv_has ls 3 [(2, .int (nI i_71)), (0, .ref (q 0)), (1, .int n9)] → PP 1 E q τ_71 H → va_S (Aq q) s.heap H locs → W p l e rm_X1_begins s m args below meth c H locs 0 0 Q (F0 m 71 ls []) := by
        intro n_71
        induction n_71 with
        | zero =>
          intro i_71 τ_71 ls H locs hi_71 hres_71 hl hP hS
          have hres : τ_71 = (lp F_X1_begins_71 4 0 (lp F_X1_begins_22 8 0 (sS (sS (sS (sS σ 13 n9) 16 0) 15 0) 14 0))) := hres_71
          subst hres
          refine lv_iload_n hx hb dX1_begins_71 rfl (lv_at hl 0 rfl) ?_
          refine lv_iconst (v := 4) hx hb dX1_begins_72 (by decide) ?_
          refine lv_icmp_ge (tgt := 89) hx hb dX1_begins_73 (by decide) (fun _ => ?_) (fun h => absurd (lp_out (show (4 : Int32) = nI 4 from rfl) (by omega) hi_71) h)
          have hl := lv_sub (l' := [(0, .ref (q 0)), (1, .int n9)]) hl [1, 2] rfl
          exact rt_WV hQ hx hb hr hlocks (Eq.subst (motive := fun z => PP 1 E q z H) (show (lp F_X1_begins_71 4 0 (lp F_X1_begins_22 8 0 (sS (sS (sS (sS σ 13 n9) 16 0) 15 0) 14 0))) = (g_X1_begins T C σ n9) from rfl) hP) hS trivial dX1_begins_89
        | succ n_71 ih_71 =>
          intro i_71 τ_71 ls H locs hi_71 hres_71 hl hP hS
          refine lv_iload_n hx hb dX1_begins_71 rfl (lv_at hl 0 rfl) ?_
          refine lv_iconst (v := 4) hx hb dX1_begins_72 (by decide) ?_
          refine lv_icmp_ge (tgt := 89) hx hb dX1_begins_73 (by decide) (fun h => absurd h (lp_in (show (4 : Int32) = nI 4 from rfl) (by omega) hi_71)) (fun _ => ?_)
          refine lv_aload_n hx hb dX1_begins_76 rfl (lv_at hl 1 rfl) ?_
          refine gf_X1_31 hx hb hts hown hK hP dX1_begins_77 ?_
          refine lv_iload_n hx hb dX1_begins_80 rfl (lv_at hl 0 rfl) ?_
          refine lv_iconst (v := -1) hx hb dX1_begins_81 (by decide) ?_
          refine st_12 hx hb hK hq hP hS (vp_in_nI (by omega) (by decide)) dX1_begins_82 (fun H locs hP hS => ?_)
          refine lv_iinc (v := (nI (i_71 + 1))) (lv' := [(2, .int (nI (i_71 + 1))), (0, .ref (q 0)), (1, .int n9)]) hx hb dX1_begins_83 hl (k := 0) rfl (nI_1 _) (by decide) rfl (fun ls hl => ?_)
          refine lv_goto (tgt := 71) hx hb dX1_begins_86 (by decide) ?_
          exact ih_71 (i_71 + 1) (sI τ_71 12 (ix (nI i_71)) (-1)) ls H locs (by omega) hres_71 (lv_sub (l' := [(2, .int (nI (i_71 + 1))), (0, .ref (q 0)), (1, .int n9)]) hl [0, 1, 2] rfl) (Eq.subst (motive := fun z => PP 1 E q z H) (show (sI τ_71 12 (ix (nI i_71)) (-1)) = (sI τ_71 12 (ix (nI i_71)) (-1)) from rfl) hP) hS
      exact L_71 4 0 (lp F_X1_begins_22 8 0 (sS (sS (sS (sS σ 13 n9) 16 0) 15 0) 14 0)) ls H locs rfl rfl (lv_sub hl [0, 1, 2] rfl) hP hS
    | succ n_22 ih_22 =>
      intro i_22 τ_22 ls H locs hi_22 hres_22 hl hP hS
      refine lv_iload_n hx hb dX1_begins_22 rfl (lv_at hl 0 rfl) ?_
      refine lv_bipush (v := 8) hx hb dX1_begins_23 (by decide) ?_
      refine lv_icmp_ge (tgt := 69) hx hb dX1_begins_25 (by decide) (fun h => absurd h (lp_in (show (8 : Int32) = nI 8 from rfl) (by omega) hi_22)) (fun _ => ?_)
      refine lv_aload_n hx hb dX1_begins_28 rfl (lv_at hl 1 rfl) ?_
      refine gf_X1_13 hx hb hts hown hK hP dX1_begins_29 ?_
      refine lv_iload_n hx hb dX1_begins_32 rfl (lv_at hl 0 rfl) ?_
      refine lv_lconst (v := 0) hx hb dX1_begins_33 (by decide) ?_
      refine st_7 hx hb hK hq hP hS (vp_in_nI (by omega) (by decide)) dX1_begins_34 (fun H locs hP hS => ?_)
      refine lv_aload_n hx hb dX1_begins_35 rfl (lv_at hl 1 rfl) ?_
      refine gf_X1_17 hx hb hts hown hK hP dX1_begins_36 ?_
      refine lv_iload_n hx hb dX1_begins_39 rfl (lv_at hl 0 rfl) ?_
      refine lv_iconst (v := -1) hx hb dX1_begins_40 (by decide) ?_
      refine st_8 hx hb hK hq hP hS (vp_in_nI (by omega) (by decide)) dX1_begins_41 (fun H locs hP hS => ?_)
      refine lv_aload_n hx hb dX1_begins_42 rfl (lv_at hl 1 rfl) ?_
      refine gf_X1_21 hx hb hts hown hK hP dX1_begins_43 ?_
      refine lv_iload_n hx hb dX1_begins_46 rfl (lv_at hl 0 rfl) ?_
      refine lv_iconst (v := 0) hx hb dX1_begins_47 (by decide) ?_
      refine st_9 hx hb hK hq hP hS (vp_in_nI (by omega) (by decide)) dX1_begins_48 (fun H locs hP hS => ?_)
      refine lv_aload_n hx hb dX1_begins_49 rfl (lv_at hl 1 rfl) ?_
      refine gf_X1_25 hx hb hts hown hK hP dX1_begins_50 ?_
      refine lv_iload_n hx hb dX1_begins_53 rfl (lv_at hl 0 rfl) ?_
      refine lv_iconst (v := 0) hx hb dX1_begins_54 (by decide) ?_
      refine st_10 hx hb hK hq hP hS (vp_in_nI (by omega) (by decide)) dX1_begins_55 (fun H locs hP hS => ?_)
      refine lv_aload_n hx hb dX1_begins_56 rfl (lv_at hl 1 rfl) ?_
      refine gf_X1_28 hx hb hts hown hK hP dX1_begins_57 ?_
      refine lv_iload_n hx hb dX1_begins_60 rfl (lv_at hl 0 rfl) ?_
      refine lv_iconst (v := 0) hx hb dX1_begins_61 (by decide) ?_
      refine st_11 hx hb hK hq hP hS (vp_in_nI (by omega) (by decide)) dX1_begins_62 (fun H locs hP hS => ?_)
      refine lv_iinc (v := (nI (i_22 + 1))) (lv' := [(2, .int (nI (i_22 + 1))), (0, .ref (q 0)), (1, .int n9)]) hx hb dX1_begins_63 hl (k := 0) rfl (nI_1 _) (by decide) rfl (fun ls hl => ?_)
      refine lv_goto (tgt := 22) hx hb dX1_begins_66 (by decide) ?_
      exact ih_22 (i_22 + 1) (sI (sI (sI (sI (sJ τ_22 7 (ix (nI i_22)) 0) 8 (ix (nI i_22)) (-1)) 9 (ix (nI i_22)) (vp_nar .boolean 0)) 10 (ix (nI i_22)) 0) 11 (ix (nI i_22)) 0) ls H locs (by omega) hres_22 (lv_sub (l' := [(2, .int (nI (i_22 + 1))), (0, .ref (q 0)), (1, .int n9)]) hl [0, 1, 2] rfl) (Eq.subst (motive := fun z => PP 1 E q z H) (show (sI (sI (sI (sI (sJ τ_22 7 (ix (nI i_22)) 0) 8 (ix (nI i_22)) (-1)) 9 (ix (nI i_22)) (vp_nar .boolean 0)) 10 (ix (nI i_22)) 0) 11 (ix (nI i_22)) 0) = (sI (sI (sI (sI (sJ τ_22 7 (ix (nI i_22)) 0) 8 (ix (nI i_22)) (-1)) 9 (ix (nI i_22)) (vp_nar .boolean 0)) 10 (ix (nI i_22)) 0) 11 (ix (nI i_22)) 0) from rfl) hP) hS
  exact L_22 8 0 (sS (sS (sS (sS σ 13 n9) 16 0) 15 0) 14 0) ls H locs rfl rfl (lv_sub hl [0, 1, 2] rfl) hP hS
def f_X1_isRefused (T C : Nat) (σ : St) (a9 : Int32) (b9 : Int32) : Int32 := (if ((sS σ 17 (if a9 = 0 then (if b9 = 0 then 0 else 2) else 1)).2.2 17) ≤ 0 then 0 else 1)
def g_X1_isRefused (T C : Nat) (σ : St) (a9 : Int32) (b9 : Int32) : St := (sS σ 17 (if a9 = 0 then (if b9 = 0 then 0 else 2) else 1))
def rm_X1_isRefused : Room := { frames := 0, cells := 0, slots := 0, locals := 0 }
set_option maxHeartbeats 1600000 in
set_option maxRecDepth 100000 in
theorem k_X1_isRefused (l : Launch) (E : Ev) (q : Nat → Nat) (hq : Dq q) {T C : Nat} (hT : T ≤ 16) (hC : 1 ≤ C ∧ C ≤ 4) (σ : St) (hI : Inv T C σ) (a9 : Int32) (b9 : Int32) : WI l 1 E q σ yX1_isRefused cX1_isRefused 3 (some .boolean) rm_X1_isRefused [.int a9, .int b9] (f_X1_isRefused T C σ a9 b9) (g_X1_isRefused T C σ a9 b9) (Inv T C (g_X1_isRefused T C σ a9 b9) ∧ True) := by
  refine Met.ofB (by decide) (Nat.le_of_ble_eq_true rfl) (fun p e s m args below meth c ls Q B hQ hPK hl => ?_)
  obtain ⟨hx, hb, hml, hr, hlocks, hown, hts⟩ := B
  have S0 : Fx p m c cX1_isRefused 3 s args RX1 := ⟨hx, hb, hml, hown, hts⟩
  obtain ⟨hP, hK⟩ := hPK
  suffices KH : ∀ (H : Heap) (locs : List Loc), PP 1 E q σ H → va_S (Aq q) s.heap H locs → W p l e rm_X1_isRefused s m args below meth c H locs 0 0 Q (F0 m 0 ls []) from KH s.heap [] hP va_S.rf
  intro H locs hP hS
  have hl : lv_has ls 3 [(0, .ref (q 0)), (1, .int a9), (2, .int b9)] := hl
  have hI0 := hI
  refine lv_aload_n hx hb dX1_isRefused_0 rfl (lv_at hl 0 rfl) ?_
  refine lv_iload_n hx hb dX1_isRefused_1 rfl (lv_at hl 1 rfl) ?_
  refine cutG (fun ls H locs st => ∃ y0 : Int32, y0 = (if a9 = 0 then (if b9 = 0 then 0 else 2) else 1) ∧ st = [.int y0, .ref (q 0)] ∧ lv_has ls 3 [(0, .ref (q 0)), (1, .int a9), (2, .int b9)] ∧ PP 1 E q σ H ∧ va_S (Aq q) s.heap H locs ∧ Inv T C σ) 18 (fun ls H locs st hKp => ?_) (fun K2 => ?_)
  · revert hKp
    refine ex_eq (fun hKp => ?_)
    obtain ⟨rfl, hl, hP, hS, hI⟩ := hKp
    refine pf_X1_59 hx hb hts hown hK hq hP hS dX1_isRefused_18 (fun H locs hP hS => ?_)
    have hI : Inv T C (sS σ 17 (if a9 = 0 then (if b9 = 0 then 0 else 2) else 1)) := inv_sS (by decide) hI
    refine lv_aload_n hx hb dX1_isRefused_21 rfl (lv_at hl 0 rfl) ?_
    refine gf_X1_59 hx hb hts hown hK hP dX1_isRefused_22 ?_
    refine cutG (fun ls H locs st => ∃ y0 : Int32, y0 = (if ((sS σ 17 (if a9 = 0 then (if b9 = 0 then 0 else 2) else 1)).2.2 17) ≤ 0 then 0 else 1) ∧ st = [.int y0] ∧ lv_has ls 3 [(0, .ref (q 0)), (1, .int a9), (2, .int b9)] ∧ PP 1 E q (sS σ 17 (if a9 = 0 then (if b9 = 0 then 0 else 2) else 1)) H ∧ va_S (Aq q) s.heap H locs ∧ Inv T C (sS σ 17 (if a9 = 0 then (if b9 = 0 then 0 else 2) else 1))) 33 (fun ls H locs st hKp => ?_) (fun K25 => ?_)
    · revert hKp
      refine ex_eq (fun hKp => ?_)
      obtain ⟨rfl, hl, hP, hS, hI⟩ := hKp
      exact rt_WZ hQ hx hb hr hlocks (nb_ite nb_0 nb_1) (Eq.subst (motive := fun z => PP 1 E q z H) (show (sS σ 17 (if a9 = 0 then (if b9 = 0 then 0 else 2) else 1)) = (g_X1_isRefused T C σ a9 b9) from rfl) hP) hS ⟨rfl, ⟨Eq.subst (motive := fun z => Inv T C z) (show (sS σ 17 (if a9 = 0 then (if b9 = 0 then 0 else 2) else 1)) = (g_X1_isRefused T C σ a9 b9) from rfl) hI, trivial⟩⟩ dX1_isRefused_33
    · refine lv_if_le (tgt := 32) hx hb dX1_isRefused_25 (by decide) (fun h25 => ?_) (fun h25 => ?_)
      · skip
        refine lv_iconst (v := 0) hx hb dX1_isRefused_32 (by decide) ?_
        exact K25 _ _ _ _ ⟨0, (Eq.symm (if_pos h25)), rfl, lv_sub hl [0, 1, 2] rfl, hP, hS, hI⟩
      · skip
        refine lv_iconst (v := 1) hx hb dX1_isRefused_28 (by decide) ?_
        refine lv_goto (tgt := 33) hx hb dX1_isRefused_29 (by decide) ?_
        exact K25 _ _ _ _ ⟨1, (Eq.symm (if_neg h25)), rfl, lv_sub hl [0, 1, 2] rfl, hP, hS, hI⟩
  · refine lv_if_eq (tgt := 9) hx hb dX1_isRefused_2 (by decide) (fun h2 => ?_) (fun h2 => ?_)
    · skip
      refine lv_iload_n hx hb dX1_isRefused_9 rfl (lv_at hl 2 rfl) ?_
      refine lv_if_eq (tgt := 17) hx hb dX1_isRefused_10 (by decide) (fun h10 => ?_) (fun h10 => ?_)
      · skip
        refine lv_iconst (v := 0) hx hb dX1_isRefused_17 (by decide) ?_
        exact K2 _ _ _ _ ⟨0, (Eq.symm (Eq.trans (if_pos h2) (if_pos h10))), rfl, lv_sub hl [0, 1, 2] rfl, hP, hS, hI⟩
      · skip
        refine lv_iconst (v := 2) hx hb dX1_isRefused_13 (by decide) ?_
        refine lv_goto (tgt := 18) hx hb dX1_isRefused_14 (by decide) ?_
        exact K2 _ _ _ _ ⟨2, (Eq.symm (Eq.trans (if_pos h2) (if_neg h10))), rfl, lv_sub hl [0, 1, 2] rfl, hP, hS, hI⟩
    · skip
      refine lv_iconst (v := 1) hx hb dX1_isRefused_5 (by decide) ?_
      refine lv_goto (tgt := 18) hx hb dX1_isRefused_6 (by decide) ?_
      exact K2 _ _ _ _ ⟨1, (Eq.symm (if_neg h2)), rfl, lv_sub hl [0, 1, 2] rfl, hP, hS, hI⟩
def f_X1_noTask (T C : Nat) (σ : St) (t : Int32) : Int32 := (if (f_X1_in (Int32.toInt64 t) 0 (Int32.toInt64 ((σ.2.2 14) - 1))) = 0 then 1 else 0)
def rm_X1_noTask : Room := { frames := 1, cells := 0, slots := 0, locals := 25 }
set_option maxHeartbeats 1600000 in
set_option maxRecDepth 100000 in
theorem k_X1_noTask (l : Launch) (E : Ev) (q : Nat → Nat) (hq : Dq q) {T C : Nat} (hT : T ≤ 16) (hC : 1 ≤ C ∧ C ≤ 4) (σ : St) (hI : Inv T C σ) (t : Int32) : RI l 1 E q σ yX1_noTask cX1_noTask 2 (some .boolean) rm_X1_noTask [.int t] (f_X1_noTask T C σ t) True := by
  refine Met.ofB (by decide) (Nat.le_of_ble_eq_true rfl) (fun p e s m args below meth c ls Q B hQ hPK hl => ?_)
  obtain ⟨hx, hb, hml, hr, hlocks, hown, hts⟩ := B
  have S0 : Fx p m c cX1_noTask 2 s args RX1 := ⟨hx, hb, hml, hown, hts⟩
  obtain ⟨hP, hK⟩ := hPK
  have hl : lv_has ls 2 [(0, .ref (q 0)), (1, .int t)] := hl
  have hI0 := hI
  refine lv_iload_n hx hb dX1_noTask_0 rfl (lv_at hl 1 rfl) ?_
  refine lv_i2l (v := Int32.toInt64 t) hx hb dX1_noTask_1 rfl ?_
  refine lv_lconst (v := 0) hx hb dX1_noTask_2 (by decide) ?_
  refine lv_aload_n hx hb dX1_noTask_3 rfl (lv_at hl 0 rfl) ?_
  refine gf_X1_69 hx hb hts hown hK hP dX1_noTask_4 ?_
  refine lv_iconst (v := 1) hx hb dX1_noTask_7 (by decide) ?_
  refine lv_isub hx hb dX1_noTask_8 ?_
  refine lv_i2l (v := Int32.toInt64 ((σ.2.2 14) - 1)) hx hb dX1_noTask_9 rfl ?_
  refine cl_NI (k_X1_in l (Int32.toInt64 t) 0 (Int32.toInt64 ((σ.2.2 14) - 1))) gw_X1_72 hd_X1_in ⟨rfl, rfl⟩ S0 (rest := []) rfl hl.1 (Nat.le_of_ble_eq_true rfl) ⟨(Nat.le_of_ble_eq_true rfl), (Nat.le_of_ble_eq_true rfl)⟩ ⟨Nat.zero_le _, Nat.zero_le _⟩ dX1_noTask_10 ?_
  refine cutG (fun ls H locs st => ∃ y0 : Int32, y0 = (if (f_X1_in (Int32.toInt64 t) 0 (Int32.toInt64 ((σ.2.2 14) - 1))) = 0 then 1 else 0) ∧ st = [.int y0] ∧ lv_has ls 2 [(0, .ref (q 0)), (1, .int t)] ∧ H = s.heap ∧ locs = []) 21 (fun ls H locs st hKp => ?_) (fun K13 => ?_)
  · revert hKp
    refine ex_eq (fun hKp => ?_)
    obtain ⟨rfl, hl, rfl, rfl⟩ := hKp
    exact rt_RZ hQ hx hb hr hlocks (nb_ite nb_1 nb_0) ⟨rfl, trivial⟩ dX1_noTask_21
  · refine lv_if_ne (tgt := 20) hx hb dX1_noTask_13 (by decide) (fun h13 => ?_) (fun h13 => ?_)
    · skip
      refine lv_iconst (v := 0) hx hb dX1_noTask_20 (by decide) ?_
      exact K13 _ _ _ _ ⟨0, (Eq.symm (if_neg h13)), rfl, lv_sub hl [0, 1] rfl, rfl, rfl⟩
    · skip
      refine lv_iconst (v := 1) hx hb dX1_noTask_16 (by decide) ?_
      refine lv_goto (tgt := 21) hx hb dX1_noTask_17 (by decide) ?_
      exact K13 _ _ _ _ ⟨1, (Eq.symm (if_pos h13)), rfl, lv_sub hl [0, 1] rfl, rfl, rfl⟩
def f_X1_noCpu (T C : Nat) (σ : St) (c9 : Int32) : Int32 := (if (f_X1_in (Int32.toInt64 c9) 0 (Int32.toInt64 ((2 * (σ.2.2 13)) - 1))) = 0 then 1 else 0)
def rm_X1_noCpu : Room := { frames := 1, cells := 0, slots := 0, locals := 25 }
set_option maxHeartbeats 1600000 in
set_option maxRecDepth 100000 in
theorem k_X1_noCpu (l : Launch) (E : Ev) (q : Nat → Nat) (hq : Dq q) {T C : Nat} (hT : T ≤ 16) (hC : 1 ≤ C ∧ C ≤ 4) (σ : St) (hI : Inv T C σ) (c9 : Int32) : RI l 1 E q σ yX1_noCpu cX1_noCpu 2 (some .boolean) rm_X1_noCpu [.int c9] (f_X1_noCpu T C σ c9) True := by
  refine Met.ofB (by decide) (Nat.le_of_ble_eq_true rfl) (fun p e s m args below meth c ls Q B hQ hPK hl => ?_)
  obtain ⟨hx, hb, hml, hr, hlocks, hown, hts⟩ := B
  have S0 : Fx p m c cX1_noCpu 2 s args RX1 := ⟨hx, hb, hml, hown, hts⟩
  obtain ⟨hP, hK⟩ := hPK
  have hl : lv_has ls 2 [(0, .ref (q 0)), (1, .int c9)] := hl
  have hI0 := hI
  refine lv_iload_n hx hb dX1_noCpu_0 rfl (lv_at hl 1 rfl) ?_
  refine lv_i2l (v := Int32.toInt64 c9) hx hb dX1_noCpu_1 rfl ?_
  refine lv_lconst (v := 0) hx hb dX1_noCpu_2 (by decide) ?_
  refine lv_iconst (v := 2) hx hb dX1_noCpu_3 (by decide) ?_
  refine lv_aload_n hx hb dX1_noCpu_4 rfl (lv_at hl 0 rfl) ?_
  refine gf_X1_7 hx hb hts hown hK hP dX1_noCpu_5 ?_
  refine lv_imul hx hb dX1_noCpu_8 ?_
  refine lv_iconst (v := 1) hx hb dX1_noCpu_9 (by decide) ?_
  refine lv_isub hx hb dX1_noCpu_10 ?_
  refine lv_i2l (v := Int32.toInt64 ((2 * (σ.2.2 13)) - 1)) hx hb dX1_noCpu_11 rfl ?_
  refine cl_NI (k_X1_in l (Int32.toInt64 c9) 0 (Int32.toInt64 ((2 * (σ.2.2 13)) - 1))) gw_X1_72 hd_X1_in ⟨rfl, rfl⟩ S0 (rest := []) rfl hl.1 (Nat.le_of_ble_eq_true rfl) ⟨(Nat.le_of_ble_eq_true rfl), (Nat.le_of_ble_eq_true rfl)⟩ ⟨Nat.zero_le _, Nat.zero_le _⟩ dX1_noCpu_12 ?_
  refine cutG (fun ls H locs st => ∃ y0 : Int32, y0 = (if (f_X1_in (Int32.toInt64 c9) 0 (Int32.toInt64 ((2 * (σ.2.2 13)) - 1))) = 0 then 1 else 0) ∧ st = [.int y0] ∧ lv_has ls 2 [(0, .ref (q 0)), (1, .int c9)] ∧ H = s.heap ∧ locs = []) 23 (fun ls H locs st hKp => ?_) (fun K15 => ?_)
  · revert hKp
    refine ex_eq (fun hKp => ?_)
    obtain ⟨rfl, hl, rfl, rfl⟩ := hKp
    exact rt_RZ hQ hx hb hr hlocks (nb_ite nb_1 nb_0) ⟨rfl, trivial⟩ dX1_noCpu_23
  · refine lv_if_ne (tgt := 22) hx hb dX1_noCpu_15 (by decide) (fun h15 => ?_) (fun h15 => ?_)
    · skip
      refine lv_iconst (v := 0) hx hb dX1_noCpu_22 (by decide) ?_
      exact K15 _ _ _ _ ⟨0, (Eq.symm (if_neg h15)), rfl, lv_sub hl [0, 1] rfl, rfl, rfl⟩
    · skip
      refine lv_iconst (v := 1) hx hb dX1_noCpu_18 (by decide) ?_
      refine lv_goto (tgt := 23) hx hb dX1_noCpu_19 (by decide) ?_
      exact K15 _ _ _ _ ⟨1, (Eq.symm (if_pos h15)), rfl, lv_sub hl [0, 1] rfl, rfl, rfl⟩
def f_X1_noCore (T C : Nat) (σ : St) (c9 : Int32) : Int32 := (if (f_X1_in (Int32.toInt64 c9) 0 (Int32.toInt64 ((σ.2.2 13) - 1))) = 0 then 1 else 0)
def rm_X1_noCore : Room := { frames := 1, cells := 0, slots := 0, locals := 25 }
set_option maxHeartbeats 1600000 in
set_option maxRecDepth 100000 in
theorem k_X1_noCore (l : Launch) (E : Ev) (q : Nat → Nat) (hq : Dq q) {T C : Nat} (hT : T ≤ 16) (hC : 1 ≤ C ∧ C ≤ 4) (σ : St) (hI : Inv T C σ) (c9 : Int32) : RI l 1 E q σ yX1_noCore cX1_noCore 2 (some .boolean) rm_X1_noCore [.int c9] (f_X1_noCore T C σ c9) True := by
  refine Met.ofB (by decide) (Nat.le_of_ble_eq_true rfl) (fun p e s m args below meth c ls Q B hQ hPK hl => ?_)
  obtain ⟨hx, hb, hml, hr, hlocks, hown, hts⟩ := B
  have S0 : Fx p m c cX1_noCore 2 s args RX1 := ⟨hx, hb, hml, hown, hts⟩
  obtain ⟨hP, hK⟩ := hPK
  have hl : lv_has ls 2 [(0, .ref (q 0)), (1, .int c9)] := hl
  have hI0 := hI
  refine lv_iload_n hx hb dX1_noCore_0 rfl (lv_at hl 1 rfl) ?_
  refine lv_i2l (v := Int32.toInt64 c9) hx hb dX1_noCore_1 rfl ?_
  refine lv_lconst (v := 0) hx hb dX1_noCore_2 (by decide) ?_
  refine lv_aload_n hx hb dX1_noCore_3 rfl (lv_at hl 0 rfl) ?_
  refine gf_X1_7 hx hb hts hown hK hP dX1_noCore_4 ?_
  refine lv_iconst (v := 1) hx hb dX1_noCore_7 (by decide) ?_
  refine lv_isub hx hb dX1_noCore_8 ?_
  refine lv_i2l (v := Int32.toInt64 ((σ.2.2 13) - 1)) hx hb dX1_noCore_9 rfl ?_
  refine cl_NI (k_X1_in l (Int32.toInt64 c9) 0 (Int32.toInt64 ((σ.2.2 13) - 1))) gw_X1_72 hd_X1_in ⟨rfl, rfl⟩ S0 (rest := []) rfl hl.1 (Nat.le_of_ble_eq_true rfl) ⟨(Nat.le_of_ble_eq_true rfl), (Nat.le_of_ble_eq_true rfl)⟩ ⟨Nat.zero_le _, Nat.zero_le _⟩ dX1_noCore_10 ?_
  refine cutG (fun ls H locs st => ∃ y0 : Int32, y0 = (if (f_X1_in (Int32.toInt64 c9) 0 (Int32.toInt64 ((σ.2.2 13) - 1))) = 0 then 1 else 0) ∧ st = [.int y0] ∧ lv_has ls 2 [(0, .ref (q 0)), (1, .int c9)] ∧ H = s.heap ∧ locs = []) 21 (fun ls H locs st hKp => ?_) (fun K13 => ?_)
  · revert hKp
    refine ex_eq (fun hKp => ?_)
    obtain ⟨rfl, hl, rfl, rfl⟩ := hKp
    exact rt_RZ hQ hx hb hr hlocks (nb_ite nb_1 nb_0) ⟨rfl, trivial⟩ dX1_noCore_21
  · refine lv_if_ne (tgt := 20) hx hb dX1_noCore_13 (by decide) (fun h13 => ?_) (fun h13 => ?_)
    · skip
      refine lv_iconst (v := 0) hx hb dX1_noCore_20 (by decide) ?_
      exact K13 _ _ _ _ ⟨0, (Eq.symm (if_neg h13)), rfl, lv_sub hl [0, 1] rfl, rfl, rfl⟩
    · skip
      refine lv_iconst (v := 1) hx hb dX1_noCore_16 (by decide) ?_
      refine lv_goto (tgt := 21) hx hb dX1_noCore_17 (by decide) ?_
      exact K13 _ _ _ _ ⟨1, (Eq.symm (if_pos h13)), rfl, lv_sub hl [0, 1] rfl, rfl, rfl⟩
def f_X1_isRunnable (T C : Nat) (σ : St) (t : Int32) : Int32 := (if (σ.1 3 (ix t)) = 0 then 1 else (if (σ.1 3 (ix t)) = 1 then 1 else 0))
def rm_X1_isRunnable : Room := { frames := 0, cells := 0, slots := 0, locals := 0 }
set_option maxHeartbeats 1600000 in
set_option maxRecDepth 100000 in
theorem k_X1_isRunnable (l : Launch) (E : Ev) (q : Nat → Nat) (hq : Dq q) {T C : Nat} (hT : T ≤ 16) (hC : 1 ≤ C ∧ C ≤ 4) (σ : St) (hI : Inv T C σ) (t : Int32) (hp0 : vp_in t 16) : RI l 1 E q σ yX1_isRunnable cX1_isRunnable 2 (some .boolean) rm_X1_isRunnable [.int t] (f_X1_isRunnable T C σ t) True := by
  refine Met.ofB (by decide) (Nat.le_of_ble_eq_true rfl) (fun p e s m args below meth c ls Q B hQ hPK hl => ?_)
  obtain ⟨hx, hb, hml, hr, hlocks, hown, hts⟩ := B
  have S0 : Fx p m c cX1_isRunnable 2 s args RX1 := ⟨hx, hb, hml, hown, hts⟩
  obtain ⟨hP, hK⟩ := hPK
  have hl : lv_has ls 2 [(0, .ref (q 0)), (1, .int t)] := hl
  have hI0 := hI
  refine lv_aload_n hx hb dX1_isRunnable_0 rfl (lv_at hl 0 rfl) ?_
  refine gf_X1_43 hx hb hts hown hK hP dX1_isRunnable_1 ?_
  refine lv_iload_n hx hb dX1_isRunnable_4 rfl (lv_at hl 1 rfl) ?_
  refine ld_3 hx hb hK hP hp0 dX1_isRunnable_5 ?_
  refine cutG (fun ls H locs st => ∃ y0 : Int32, y0 = (if (σ.1 3 (ix t)) = 0 then 1 else (if (σ.1 3 (ix t)) = 1 then 1 else 0)) ∧ st = [.int y0] ∧ lv_has ls 2 [(0, .ref (q 0)), (1, .int t)] ∧ H = s.heap ∧ locs = []) 24 (fun ls H locs st hKp => ?_) (fun K6 => ?_)
  · revert hKp
    refine ex_eq (fun hKp => ?_)
    obtain ⟨rfl, hl, rfl, rfl⟩ := hKp
    exact rt_RZ hQ hx hb hr hlocks (nb_ite nb_1 (nb_ite nb_1 nb_0)) ⟨rfl, trivial⟩ dX1_isRunnable_24
  · refine lv_if_eq (tgt := 19) hx hb dX1_isRunnable_6 (by decide) (fun h6 => ?_) (fun h6 => ?_)
    · skip
      refine lv_iconst (v := 1) hx hb dX1_isRunnable_19 (by decide) ?_
      refine lv_goto (tgt := 24) hx hb dX1_isRunnable_20 (by decide) ?_
      exact K6 _ _ _ _ ⟨1, (Eq.symm (if_pos h6)), rfl, lv_sub hl [0, 1] rfl, rfl, rfl⟩
    · skip
      refine lv_aload_n hx hb dX1_isRunnable_9 rfl (lv_at hl 0 rfl) ?_
      refine gf_X1_43 hx hb hts hown hK hP dX1_isRunnable_10 ?_
      refine lv_iload_n hx hb dX1_isRunnable_13 rfl (lv_at hl 1 rfl) ?_
      refine ld_3 hx hb hK hP hp0 dX1_isRunnable_14 ?_
      refine lv_iconst (v := 1) hx hb dX1_isRunnable_15 (by decide) ?_
      refine lv_icmp_ne (tgt := 23) hx hb dX1_isRunnable_16 (by decide) (fun h16 => ?_) (fun h16 => ?_)
      · skip
        refine lv_iconst (v := 0) hx hb dX1_isRunnable_23 (by decide) ?_
        exact K6 _ _ _ _ ⟨0, (Eq.symm (Eq.trans (if_neg h6) (if_neg h16))), rfl, lv_sub hl [0, 1] rfl, rfl, rfl⟩
      · skip
        refine lv_iconst (v := 1) hx hb dX1_isRunnable_19 (by decide) ?_
        refine lv_goto (tgt := 24) hx hb dX1_isRunnable_20 (by decide) ?_
        exact K6 _ _ _ _ ⟨1, (Eq.symm (Eq.trans (if_neg h6) (if_pos h16))), rfl, lv_sub hl [0, 1] rfl, rfl, rfl⟩
def f_X1_relative (T C : Nat) (σ : St) (t : Int32) : Int64 := ((σ.2.1 4 (ix t)) - (σ.2.1 7 (ix (σ.1 0 (ix t)))))
def rm_X1_relative : Room := { frames := 0, cells := 0, slots := 0, locals := 0 }
set_option maxHeartbeats 1600000 in
set_option maxRecDepth 100000 in
theorem k_X1_relative (l : Launch) (E : Ev) (q : Nat → Nat) (hq : Dq q) {T C : Nat} (hT : T ≤ 16) (hC : 1 ≤ C ∧ C ≤ 4) (σ : St) (hI : Inv T C σ) (t : Int32) (hp0 : vp_in t 16) : RJ l 1 E q σ yX1_relative cX1_relative 2 (some .long) rm_X1_relative [.int t] (f_X1_relative T C σ t) True := by
  refine Met.ofB (by decide) (Nat.le_of_ble_eq_true rfl) (fun p e s m args below meth c ls Q B hQ hPK hl => ?_)
  obtain ⟨hx, hb, hml, hr, hlocks, hown, hts⟩ := B
  have S0 : Fx p m c cX1_relative 2 s args RX1 := ⟨hx, hb, hml, hown, hts⟩
  obtain ⟨hP, hK⟩ := hPK
  have hl : lv_has ls 2 [(0, .ref (q 0)), (1, .int t)] := hl
  have hI0 := hI
  refine lv_aload_n hx hb dX1_relative_0 rfl (lv_at hl 0 rfl) ?_
  refine gf_X1_46 hx hb hts hown hK hP dX1_relative_1 ?_
  refine lv_iload_n hx hb dX1_relative_4 rfl (lv_at hl 1 rfl) ?_
  refine ld_4 hx hb hK hP hp0 dX1_relative_5 ?_
  refine lv_aload_n hx hb dX1_relative_6 rfl (lv_at hl 0 rfl) ?_
  refine gf_X1_13 hx hb hts hown hK hP dX1_relative_7 ?_
  refine lv_aload_n hx hb dX1_relative_10 rfl (lv_at hl 0 rfl) ?_
  refine gf_X1_34 hx hb hts hown hK hP dX1_relative_11 ?_
  refine lv_iload_n hx hb dX1_relative_14 rfl (lv_at hl 1 rfl) ?_
  refine ld_0 hx hb hK hP hp0 dX1_relative_15 ?_
  refine ld_7 hx hb hK hP (hI.1 _) dX1_relative_16 ?_
  refine lv_lsub hx hb dX1_relative_17 ?_
  exact rt_RJ hQ hx hb hr hlocks ⟨rfl, trivial⟩ dX1_relative_18
def f_X1_isAhead (T C : Nat) (σ : St) (t : Int32) (o9 : Int32) : Int32 := (if o9 = (-1) then 1 else (if (lg_cmp (f_X1_relative T C σ t) (f_X1_relative T C σ o9)) < 0 then 1 else (if (lg_cmp (f_X1_relative T C σ t) (f_X1_relative T C σ o9)) = 0 then (if o9 ≤ t then 0 else 1) else 0)))
def rm_X1_isAhead : Room := { frames := 1, cells := 0, slots := 0, locals := 21 }
set_option maxHeartbeats 1600000 in
set_option maxRecDepth 100000 in
theorem k_X1_isAhead (l : Launch) (E : Ev) (q : Nat → Nat) (hq : Dq q) {T C : Nat} (hT : T ≤ 16) (hC : 1 ≤ C ∧ C ≤ 4) (σ : St) (hI : Inv T C σ) (t : Int32) (o9 : Int32) (hp0 : vp_in t 16) (hp1 : vo o9) : RI l 1 E q σ yX1_isAhead cX1_isAhead 7 (some .boolean) rm_X1_isAhead [.int t, .int o9] (f_X1_isAhead T C σ t o9) True := by
  refine Met.ofB (by decide) (Nat.le_of_ble_eq_true rfl) (fun p e s m args below meth c ls Q B hQ hPK hl => ?_)
  obtain ⟨hx, hb, hml, hr, hlocks, hown, hts⟩ := B
  have S0 : Fx p m c cX1_isAhead 7 s args RX1 := ⟨hx, hb, hml, hown, hts⟩
  obtain ⟨hP, hK⟩ := hPK
  have hl : lv_has ls 7 [(0, .ref (q 0)), (1, .int t), (2, .int o9)] := hl
  have hI0 := hI
  refine lv_iload_n hx hb dX1_isAhead_0 rfl (lv_at hl 2 rfl) ?_
  refine lv_iconst (v := -1) hx hb dX1_isAhead_1 (by decide) ?_
  refine lv_icmp_ne (tgt := 7) hx hb dX1_isAhead_2 (by decide) (fun h2 => ?_) (fun h2 => ?_)
  · skip
    refine lv_aload_n hx hb dX1_isAhead_7 rfl (lv_at hl 0 rfl) ?_
    refine lv_iload_n hx hb dX1_isAhead_8 rfl (lv_at hl 1 rfl) ?_
    refine cl_RJ (k_X1_relative l E q hq hT hC σ hI t hp0) gw_X1_82 hd_X1_relative ⟨rfl, rfl⟩ S0 hK hP (rest := []) rfl hl.1 (Nat.le_of_ble_eq_true rfl) ⟨(Nat.le_of_ble_eq_true rfl), (Nat.le_of_ble_eq_true rfl)⟩ ⟨Nat.zero_le _, Nat.zero_le _⟩ dX1_isAhead_9 (fun hex => ?_)
    refine lv_lstore_n (lv' := [(3, .long (f_X1_relative T C σ t)), (0, .ref (q 0)), (1, .int t), (2, .int o9)]) hx hb dX1_isAhead_12 rfl hl (by decide) rfl (fun ls hl => ?_)
    refine lv_aload_n hx hb dX1_isAhead_13 rfl (lv_at hl 1 rfl) ?_
    refine lv_iload_n hx hb dX1_isAhead_14 rfl (lv_at hl 3 rfl) ?_
    refine cl_RJ (k_X1_relative l E q hq hT hC σ hI o9 (vo.in hp1 h2)) gw_X1_82 hd_X1_relative ⟨rfl, rfl⟩ S0 hK hP (rest := []) rfl hl.1 (Nat.le_of_ble_eq_true rfl) ⟨(Nat.le_of_ble_eq_true rfl), (Nat.le_of_ble_eq_true rfl)⟩ ⟨Nat.zero_le _, Nat.zero_le _⟩ dX1_isAhead_15 (fun hex => ?_)
    refine lv_lstore (lv' := [(5, .long (f_X1_relative T C σ o9)), (3, .long (f_X1_relative T C σ t)), (0, .ref (q 0)), (1, .int t), (2, .int o9)]) hx hb dX1_isAhead_18 hl (by decide) rfl (fun ls hl => ?_)
    refine lv_lload_n hx hb dX1_isAhead_20 rfl (lv_at hl 1 rfl) ?_
    refine lv_lload hx hb dX1_isAhead_21 (lv_at hl 0 rfl) ?_
    refine W.lcmp hx hb dX1_isAhead_23 ?_
    refine cutG (fun ls H locs st => ∃ y0 : Int32, y0 = (if (lg_cmp (f_X1_relative T C σ t) (f_X1_relative T C σ o9)) < 0 then 1 else (if (lg_cmp (f_X1_relative T C σ t) (f_X1_relative T C σ o9)) = 0 then (if o9 ≤ t then 0 else 1) else 0)) ∧ st = [.int y0] ∧ lv_has ls 7 [(5, .long (f_X1_relative T C σ o9)), (3, .long (f_X1_relative T C σ t)), (0, .ref (q 0)), (1, .int t), (2, .int o9)] ∧ H = s.heap ∧ locs = []) 44 (fun ls H locs st hKp => ?_) (fun K24 => ?_)
    · revert hKp
      refine ex_eq (fun hKp => ?_)
      obtain ⟨rfl, hl, rfl, rfl⟩ := hKp
      exact rt_RZ hQ hx hb hr hlocks (nb_ite nb_1 (nb_ite (nb_ite nb_0 nb_1) nb_0)) ⟨(Eq.symm (if_neg h2)), trivial⟩ dX1_isAhead_44
    · refine lv_if_lt (tgt := 39) hx hb dX1_isAhead_24 (by decide) (fun h24 => ?_) (fun h24 => ?_)
      · skip
        refine lv_iconst (v := 1) hx hb dX1_isAhead_39 (by decide) ?_
        refine lv_goto (tgt := 44) hx hb dX1_isAhead_40 (by decide) ?_
        exact K24 _ _ _ _ ⟨1, (Eq.symm (if_pos h24)), rfl, lv_sub hl [0, 1, 2, 3, 4] rfl, rfl, rfl⟩
      · skip
        refine lv_lload_n hx hb dX1_isAhead_27 rfl (lv_at hl 1 rfl) ?_
        refine lv_lload hx hb dX1_isAhead_28 (lv_at hl 0 rfl) ?_
        refine W.lcmp hx hb dX1_isAhead_30 ?_
        refine lv_if_ne (tgt := 43) hx hb dX1_isAhead_31 (by decide) (fun h31 => ?_) (fun h31 => ?_)
        · skip
          refine lv_iconst (v := 0) hx hb dX1_isAhead_43 (by decide) ?_
          exact K24 _ _ _ _ ⟨0, (Eq.symm (Eq.trans (if_neg h24) (if_neg h31))), rfl, lv_sub hl [0, 1, 2, 3, 4] rfl, rfl, rfl⟩
        · skip
          refine lv_iload_n hx hb dX1_isAhead_34 rfl (lv_at hl 3 rfl) ?_
          refine lv_iload_n hx hb dX1_isAhead_35 rfl (lv_at hl 4 rfl) ?_
          refine lv_icmp_ge (tgt := 43) hx hb dX1_isAhead_36 (by decide) (fun h36 => ?_) (fun h36 => ?_)
          · skip
            refine lv_iconst (v := 0) hx hb dX1_isAhead_43 (by decide) ?_
            exact K24 _ _ _ _ ⟨0, (Eq.symm (Eq.trans (Eq.trans (if_neg h24) (if_pos h31)) (if_pos h36))), rfl, lv_sub hl [0, 1, 2, 3, 4] rfl, rfl, rfl⟩
          · skip
            refine lv_iconst (v := 1) hx hb dX1_isAhead_39 (by decide) ?_
            refine lv_goto (tgt := 44) hx hb dX1_isAhead_40 (by decide) ?_
            exact K24 _ _ _ _ ⟨1, (Eq.symm (Eq.trans (Eq.trans (if_neg h24) (if_pos h31)) (if_neg h36))), rfl, lv_sub hl [0, 1, 2, 3, 4] rfl, rfl, rfl⟩
  · skip
    refine lv_iconst (v := 1) hx hb dX1_isAhead_5 (by decide) ?_
    exact rt_RZ hQ hx hb hr hlocks nb_1 ⟨(Eq.symm (if_pos h2)), trivial⟩ dX1_isAhead_6
def F_X1_leader_4 (T : Nat) (C : Nat) (σ : St) (r9 : Int32) : Nat → Int32 → Int32 := fun i_4 z => (if (f_X1_isRunnable T C σ (nI i_4)) = 0 then z else (if ((σ.1 0 (ix (nI i_4))) / 2) = r9 then (if (f_X1_isAhead T C σ (nI i_4) z) = 0 then z else (nI i_4)) else z))
def f_X1_leader (T C : Nat) (σ : St) (r9 : Int32) : Int32 := (lp (F_X1_leader_4 T C σ r9) T 0 (-1))
def rm_X1_leader : Room := { frames := 2, cells := 0, slots := 0, locals := 47 }
set_option maxHeartbeats 1600000 in
set_option maxRecDepth 100000 in
theorem k_X1_leader (l : Launch) (E : Ev) (q : Nat → Nat) (hq : Dq q) {T C : Nat} (hT : T ≤ 16) (hC : 1 ≤ C ∧ C ≤ 4) (σ : St) (hI : Inv T C σ) (r9 : Int32) : RI l 1 E q σ yX1_leader cX1_leader 4 (some .int) rm_X1_leader [.int r9] (f_X1_leader T C σ r9) (vo (f_X1_leader T C σ r9) ∧ True) := by
  refine Met.ofB (by decide) (Nat.le_of_ble_eq_true rfl) (fun p e s m args below meth c ls Q B hQ hPK hl => ?_)
  obtain ⟨hx, hb, hml, hr, hlocks, hown, hts⟩ := B
  have S0 : Fx p m c cX1_leader 4 s args RX1 := ⟨hx, hb, hml, hown, hts⟩
  obtain ⟨hP, hK⟩ := hPK
  have hl : lv_has ls 4 [(0, .ref (q 0)), (1, .int r9)] := hl
  have hI0 := hI
  refine lv_iconst (v := -1) hx hb dX1_leader_0 (by decide) ?_
  refine lv_istore_n (lv' := [(2, .int (-1)), (0, .ref (q 0)), (1, .int r9)]) hx hb dX1_leader_1 rfl hl (by decide) rfl (fun ls hl => ?_)
  refine lv_iconst (v := 0) hx hb dX1_leader_2 (by decide) ?_
  refine lv_istore_n (lv' := [(3, .int 0), (2, .int (-1)), (0, .ref (q 0)), (1, .int r9)]) hx hb dX1_leader_3 rfl hl (by decide) rfl (fun ls hl => ?_)
  have L_4 : ∀ (n_4 i_4 : Nat) (a2_4 : Int32) (ls : Array Slot), i_4 + n_4 = T → lp (F_X1_leader_4 T C σ r9) n_4 i_4 a2_4 = (lp (F_X1_leader_4 T C σ r9) T 0 (-1)) → vo a2_4 → lv_has ls 4 [(3, .int (nI i_4)), (2, .int a2_4), (0, .ref (q 0)), (1, .int r9)] → W p l e rm_X1_leader s m args below meth c s.heap [] 0 0 Q (F0 m 4 ls []) := by
    intro n_4
    induction n_4 with
    | zero =>
      intro i_4 a2_4 ls hi_4 hres_4 hvo_a2_4 hl
      have hres : a2_4 = (lp (F_X1_leader_4 T C σ r9) T 0 (-1)) := hres_4
      subst hres
      refine lv_iload_n hx hb dX1_leader_4 rfl (lv_at hl 0 rfl) ?_
      refine lv_aload_n hx hb dX1_leader_5 rfl (lv_at hl 2 rfl) ?_
      refine gf_X1_69 hx hb hts hown hK hP dX1_leader_6 ?_
      refine lv_icmp_ge (tgt := 53) hx hb dX1_leader_9 (by decide) (fun _ => ?_) (fun h => absurd (lp_out hI.2.1 (by omega) hi_4) h)
      have hl := lv_sub (l' := [(2, .int (lp (F_X1_leader_4 T C σ r9) T 0 (-1))), (0, .ref (q 0)), (1, .int r9)]) hl [1, 2, 3] rfl
      refine lv_iload_n hx hb dX1_leader_53 rfl (lv_at hl 0 rfl) ?_
      exact rt_RI hQ hx hb hr hlocks ⟨rfl, ⟨Eq.subst (motive := fun z => vo z) (show (lp (F_X1_leader_4 T C σ r9) T 0 (-1)) = (f_X1_leader T C σ r9) from rfl) (show vo (lp (F_X1_leader_4 T C σ r9) T 0 (-1)) from hvo_a2_4), trivial⟩⟩ dX1_leader_54
    | succ n_4 ih_4 =>
      intro i_4 a2_4 ls hi_4 hres_4 hvo_a2_4 hl
      refine lv_iload_n hx hb dX1_leader_4 rfl (lv_at hl 0 rfl) ?_
      refine lv_aload_n hx hb dX1_leader_5 rfl (lv_at hl 2 rfl) ?_
      refine gf_X1_69 hx hb hts hown hK hP dX1_leader_6 ?_
      refine lv_icmp_ge (tgt := 53) hx hb dX1_leader_9 (by decide) (fun h => absurd h (lp_in hI.2.1 (by omega) hi_4)) (fun _ => ?_)
      refine lv_aload_n hx hb dX1_leader_12 rfl (lv_at hl 2 rfl) ?_
      refine lv_iload_n hx hb dX1_leader_13 rfl (lv_at hl 0 rfl) ?_
      refine cl_RI (k_X1_isRunnable l E q hq hT hC σ hI (nI i_4) (vp_in_nI (by omega) (by decide))) gw_X1_86 hd_X1_isRunnable ⟨rfl, rfl⟩ S0 hK hP (rest := []) rfl hl.1 (Nat.le_of_ble_eq_true rfl) ⟨(Nat.le_of_ble_eq_true rfl), (Nat.le_of_ble_eq_true rfl)⟩ ⟨Nat.zero_le _, Nat.zero_le _⟩ dX1_leader_14 (fun hex => ?_)
      refine cutG (fun ls H locs st => ∃ y0 : Int32, y0 = (if (f_X1_isRunnable T C σ (nI i_4)) = 0 then a2_4 else (if ((σ.1 0 (ix (nI i_4))) / 2) = r9 then (if (f_X1_isAhead T C σ (nI i_4) a2_4) = 0 then a2_4 else (nI i_4)) else a2_4)) ∧ st = [.int y0] ∧ lv_has ls 4 [(3, .int (nI i_4)), (2, .int a2_4), (0, .ref (q 0)), (1, .int r9)] ∧ H = s.heap ∧ locs = []) 46 (fun ls H locs st hKp => ?_) (fun K17 => ?_)
      · revert hKp
        refine ex_eq (fun hKp => ?_)
        obtain ⟨rfl, hl, rfl, rfl⟩ := hKp
        refine lv_istore_n (lv' := [(2, .int (if (f_X1_isRunnable T C σ (nI i_4)) = 0 then a2_4 else (if ((σ.1 0 (ix (nI i_4))) / 2) = r9 then (if (f_X1_isAhead T C σ (nI i_4) a2_4) = 0 then a2_4 else (nI i_4)) else a2_4))), (3, .int (nI i_4)), (0, .ref (q 0)), (1, .int r9)]) hx hb dX1_leader_46 rfl hl (by decide) rfl (fun ls hl => ?_)
        refine lv_iinc (v := (nI (i_4 + 1))) (lv' := [(3, .int (nI (i_4 + 1))), (2, .int (if (f_X1_isRunnable T C σ (nI i_4)) = 0 then a2_4 else (if ((σ.1 0 (ix (nI i_4))) / 2) = r9 then (if (f_X1_isAhead T C σ (nI i_4) a2_4) = 0 then a2_4 else (nI i_4)) else a2_4))), (0, .ref (q 0)), (1, .int r9)]) hx hb dX1_leader_47 hl (k := 1) rfl (nI_1 _) (by decide) rfl (fun ls hl => ?_)
        refine lv_goto (tgt := 4) hx hb dX1_leader_50 (by decide) ?_
        exact ih_4 (i_4 + 1) (if (f_X1_isRunnable T C σ (nI i_4)) = 0 then a2_4 else (if ((σ.1 0 (ix (nI i_4))) / 2) = r9 then (if (f_X1_isAhead T C σ (nI i_4) a2_4) = 0 then a2_4 else (nI i_4)) else a2_4)) ls (by omega) hres_4 (Eq.subst (motive := fun z => vo z) (show (if (f_X1_isRunnable T C σ (nI i_4)) = 0 then a2_4 else (if ((σ.1 0 (ix (nI i_4))) / 2) = r9 then (if (f_X1_isAhead T C σ (nI i_4) a2_4) = 0 then a2_4 else (nI i_4)) else a2_4)) = (if (f_X1_isRunnable T C σ (nI i_4)) = 0 then a2_4 else (if ((σ.1 0 (ix (nI i_4))) / 2) = r9 then (if (f_X1_isAhead T C σ (nI i_4) a2_4) = 0 then a2_4 else (nI i_4)) else a2_4)) from rfl) (show vo (if (f_X1_isRunnable T C σ (nI i_4)) = 0 then a2_4 else (if ((σ.1 0 (ix (nI i_4))) / 2) = r9 then (if (f_X1_isAhead T C σ (nI i_4) a2_4) = 0 then a2_4 else (nI i_4)) else a2_4)) from (vo.ite hvo_a2_4 (vo.ite (vo.ite hvo_a2_4 (vo_nI (by omega))) hvo_a2_4)))) (lv_sub (l' := [(3, .int (nI (i_4 + 1))), (2, .int (if (f_X1_isRunnable T C σ (nI i_4)) = 0 then a2_4 else (if ((σ.1 0 (ix (nI i_4))) / 2) = r9 then (if (f_X1_isAhead T C σ (nI i_4) a2_4) = 0 then a2_4 else (nI i_4)) else a2_4))), (0, .ref (q 0)), (1, .int r9)]) hl [0, 1, 2, 3] rfl)
      · refine lv_if_eq (tgt := 45) hx hb dX1_leader_17 (by decide) (fun h17 => ?_) (fun h17 => ?_)
        · skip
          refine lv_iload_n hx hb dX1_leader_45 rfl (lv_at hl 1 rfl) ?_
          exact K17 _ _ _ _ ⟨a2_4, (Eq.symm (if_pos h17)), rfl, lv_sub hl [0, 1, 2, 3] rfl, rfl, rfl⟩
        · skip
          refine lv_aload_n hx hb dX1_leader_20 rfl (lv_at hl 2 rfl) ?_
          refine gf_X1_34 hx hb hts hown hK hP dX1_leader_21 ?_
          refine lv_iload_n hx hb dX1_leader_24 rfl (lv_at hl 0 rfl) ?_
          refine ld_0 hx hb hK hP (vp_in_nI (by omega) (by decide)) dX1_leader_25 ?_
          refine lv_iconst (v := 2) hx hb dX1_leader_26 (by decide) ?_
          refine lv_idiv hx hb dX1_leader_27 (by decide) ?_
          refine lv_iload_n hx hb dX1_leader_28 rfl (lv_at hl 3 rfl) ?_
          refine lv_icmp_ne (tgt := 45) hx hb dX1_leader_29 (by decide) (fun h29 => ?_) (fun h29 => ?_)
          · skip
            refine lv_iload_n hx hb dX1_leader_45 rfl (lv_at hl 1 rfl) ?_
            exact K17 _ _ _ _ ⟨a2_4, (Eq.symm (Eq.trans (if_neg h17) (if_neg h29))), rfl, lv_sub hl [0, 1, 2, 3] rfl, rfl, rfl⟩
          · skip
            refine lv_aload_n hx hb dX1_leader_32 rfl (lv_at hl 2 rfl) ?_
            refine lv_iload_n hx hb dX1_leader_33 rfl (lv_at hl 0 rfl) ?_
            refine lv_iload_n hx hb dX1_leader_34 rfl (lv_at hl 1 rfl) ?_
            refine cl_RI (k_X1_isAhead l E q hq hT hC σ hI (nI i_4) a2_4 (vp_in_nI (by omega) (by decide)) hvo_a2_4) gw_X1_90 hd_X1_isAhead ⟨rfl, rfl⟩ S0 hK hP (rest := []) rfl hl.1 (Nat.le_of_ble_eq_true rfl) ⟨(Nat.le_of_ble_eq_true rfl), (Nat.le_of_ble_eq_true rfl)⟩ ⟨Nat.zero_le _, Nat.zero_le _⟩ dX1_leader_35 (fun hex => ?_)
            refine lv_if_eq (tgt := 45) hx hb dX1_leader_38 (by decide) (fun h38 => ?_) (fun h38 => ?_)
            · skip
              refine lv_iload_n hx hb dX1_leader_45 rfl (lv_at hl 1 rfl) ?_
              exact K17 _ _ _ _ ⟨a2_4, (Eq.symm (Eq.trans (Eq.trans (if_neg h17) (if_pos h29)) (if_pos h38))), rfl, lv_sub hl [0, 1, 2, 3] rfl, rfl, rfl⟩
            · skip
              refine lv_iload_n hx hb dX1_leader_41 rfl (lv_at hl 0 rfl) ?_
              refine lv_goto (tgt := 46) hx hb dX1_leader_42 (by decide) ?_
              exact K17 _ _ _ _ ⟨(nI i_4), (Eq.symm (Eq.trans (Eq.trans (if_neg h17) (if_pos h29)) (if_neg h38))), rfl, lv_sub hl [0, 1, 2, 3] rfl, rfl, rfl⟩
  exact L_4 T 0 (-1) ls (Nat.zero_add T) rfl vo_1 (lv_sub hl [0, 1, 2, 3] rfl)
def F_X1_firstOf_5 (T : Nat) (C : Nat) (σ : St) (c9 : Int32) (k9 : Int32) : Nat → Int32 → Int32 := fun i_5 z => (if (f_X1_isRunnable T C σ (nI i_5)) = 0 then z else (if (σ.1 0 (ix (nI i_5))) = c9 then (if (σ.1 2 (ix (nI i_5))) = k9 then (if (f_X1_isAhead T C σ (nI i_5) z) = 0 then z else (nI i_5)) else z) else z))
def f_X1_firstOf (T C : Nat) (σ : St) (c9 : Int32) (k9 : Int32) : Int32 := (lp (F_X1_firstOf_5 T C σ c9 k9) T 0 (-1))
def rm_X1_firstOf : Room := { frames := 2, cells := 0, slots := 0, locals := 47 }
set_option maxHeartbeats 1600000 in
set_option maxRecDepth 100000 in
theorem k_X1_firstOf (l : Launch) (E : Ev) (q : Nat → Nat) (hq : Dq q) {T C : Nat} (hT : T ≤ 16) (hC : 1 ≤ C ∧ C ≤ 4) (σ : St) (hI : Inv T C σ) (c9 : Int32) (k9 : Int32) : RI l 1 E q σ yX1_firstOf cX1_firstOf 5 (some .int) rm_X1_firstOf [.int c9, .int k9] (f_X1_firstOf T C σ c9 k9) (vo (f_X1_firstOf T C σ c9 k9) ∧ True) := by
  refine Met.ofB (by decide) (Nat.le_of_ble_eq_true rfl) (fun p e s m args below meth c ls Q B hQ hPK hl => ?_)
  obtain ⟨hx, hb, hml, hr, hlocks, hown, hts⟩ := B
  have S0 : Fx p m c cX1_firstOf 5 s args RX1 := ⟨hx, hb, hml, hown, hts⟩
  obtain ⟨hP, hK⟩ := hPK
  have hl : lv_has ls 5 [(0, .ref (q 0)), (1, .int c9), (2, .int k9)] := hl
  have hI0 := hI
  refine lv_iconst (v := -1) hx hb dX1_firstOf_0 (by decide) ?_
  refine lv_istore_n (lv' := [(3, .int (-1)), (0, .ref (q 0)), (1, .int c9), (2, .int k9)]) hx hb dX1_firstOf_1 rfl hl (by decide) rfl (fun ls hl => ?_)
  refine lv_iconst (v := 0) hx hb dX1_firstOf_2 (by decide) ?_
  refine lv_istore (lv' := [(4, .int 0), (3, .int (-1)), (0, .ref (q 0)), (1, .int c9), (2, .int k9)]) hx hb dX1_firstOf_3 hl (by decide) rfl (fun ls hl => ?_)
  have L_5 : ∀ (n_5 i_5 : Nat) (a3_5 : Int32) (ls : Array Slot), i_5 + n_5 = T → lp (F_X1_firstOf_5 T C σ c9 k9) n_5 i_5 a3_5 = (lp (F_X1_firstOf_5 T C σ c9 k9) T 0 (-1)) → vo a3_5 → lv_has ls 5 [(4, .int (nI i_5)), (3, .int a3_5), (0, .ref (q 0)), (1, .int c9), (2, .int k9)] → W p l e rm_X1_firstOf s m args below meth c s.heap [] 0 0 Q (F0 m 5 ls []) := by
    intro n_5
    induction n_5 with
    | zero =>
      intro i_5 a3_5 ls hi_5 hres_5 hvo_a3_5 hl
      have hres : a3_5 = (lp (F_X1_firstOf_5 T C σ c9 k9) T 0 (-1)) := hres_5
      subst hres
      refine lv_iload hx hb dX1_firstOf_5 (lv_at hl 0 rfl) ?_
      refine lv_aload_n hx hb dX1_firstOf_7 rfl (lv_at hl 2 rfl) ?_
      refine gf_X1_69 hx hb hts hown hK hP dX1_firstOf_8 ?_
      refine lv_icmp_ge (tgt := 68) hx hb dX1_firstOf_11 (by decide) (fun _ => ?_) (fun h => absurd (lp_out hI.2.1 (by omega) hi_5) h)
      have hl := lv_sub (l' := [(3, .int (lp (F_X1_firstOf_5 T C σ c9 k9) T 0 (-1))), (0, .ref (q 0)), (1, .int c9), (2, .int k9)]) hl [1, 2, 3, 4] rfl
      refine lv_iload_n hx hb dX1_firstOf_68 rfl (lv_at hl 0 rfl) ?_
      exact rt_RI hQ hx hb hr hlocks ⟨rfl, ⟨Eq.subst (motive := fun z => vo z) (show (lp (F_X1_firstOf_5 T C σ c9 k9) T 0 (-1)) = (f_X1_firstOf T C σ c9 k9) from rfl) (show vo (lp (F_X1_firstOf_5 T C σ c9 k9) T 0 (-1)) from hvo_a3_5), trivial⟩⟩ dX1_firstOf_69
    | succ n_5 ih_5 =>
      intro i_5 a3_5 ls hi_5 hres_5 hvo_a3_5 hl
      refine lv_iload hx hb dX1_firstOf_5 (lv_at hl 0 rfl) ?_
      refine lv_aload_n hx hb dX1_firstOf_7 rfl (lv_at hl 2 rfl) ?_
      refine gf_X1_69 hx hb hts hown hK hP dX1_firstOf_8 ?_
      refine lv_icmp_ge (tgt := 68) hx hb dX1_firstOf_11 (by decide) (fun h => absurd h (lp_in hI.2.1 (by omega) hi_5)) (fun _ => ?_)
      refine lv_aload_n hx hb dX1_firstOf_14 rfl (lv_at hl 2 rfl) ?_
      refine lv_iload hx hb dX1_firstOf_15 (lv_at hl 0 rfl) ?_
      refine cl_RI (k_X1_isRunnable l E q hq hT hC σ hI (nI i_5) (vp_in_nI (by omega) (by decide))) gw_X1_86 hd_X1_isRunnable ⟨rfl, rfl⟩ S0 hK hP (rest := []) rfl hl.1 (Nat.le_of_ble_eq_true rfl) ⟨(Nat.le_of_ble_eq_true rfl), (Nat.le_of_ble_eq_true rfl)⟩ ⟨Nat.zero_le _, Nat.zero_le _⟩ dX1_firstOf_17 (fun hex => ?_)
      refine cutG (fun ls H locs st => ∃ y0 : Int32, y0 = (if (f_X1_isRunnable T C σ (nI i_5)) = 0 then a3_5 else (if (σ.1 0 (ix (nI i_5))) = c9 then (if (σ.1 2 (ix (nI i_5))) = k9 then (if (f_X1_isAhead T C σ (nI i_5) a3_5) = 0 then a3_5 else (nI i_5)) else a3_5) else a3_5)) ∧ st = [.int y0] ∧ lv_has ls 5 [(4, .int (nI i_5)), (3, .int a3_5), (0, .ref (q 0)), (1, .int c9), (2, .int k9)] ∧ H = s.heap ∧ locs = []) 61 (fun ls H locs st hKp => ?_) (fun K20 => ?_)
      · revert hKp
        refine ex_eq (fun hKp => ?_)
        obtain ⟨rfl, hl, rfl, rfl⟩ := hKp
        refine lv_istore_n (lv' := [(3, .int (if (f_X1_isRunnable T C σ (nI i_5)) = 0 then a3_5 else (if (σ.1 0 (ix (nI i_5))) = c9 then (if (σ.1 2 (ix (nI i_5))) = k9 then (if (f_X1_isAhead T C σ (nI i_5) a3_5) = 0 then a3_5 else (nI i_5)) else a3_5) else a3_5))), (4, .int (nI i_5)), (0, .ref (q 0)), (1, .int c9), (2, .int k9)]) hx hb dX1_firstOf_61 rfl hl (by decide) rfl (fun ls hl => ?_)
        refine lv_iinc (v := (nI (i_5 + 1))) (lv' := [(4, .int (nI (i_5 + 1))), (3, .int (if (f_X1_isRunnable T C σ (nI i_5)) = 0 then a3_5 else (if (σ.1 0 (ix (nI i_5))) = c9 then (if (σ.1 2 (ix (nI i_5))) = k9 then (if (f_X1_isAhead T C σ (nI i_5) a3_5) = 0 then a3_5 else (nI i_5)) else a3_5) else a3_5))), (0, .ref (q 0)), (1, .int c9), (2, .int k9)]) hx hb dX1_firstOf_62 hl (k := 1) rfl (nI_1 _) (by decide) rfl (fun ls hl => ?_)
        refine lv_goto (tgt := 5) hx hb dX1_firstOf_65 (by decide) ?_
        exact ih_5 (i_5 + 1) (if (f_X1_isRunnable T C σ (nI i_5)) = 0 then a3_5 else (if (σ.1 0 (ix (nI i_5))) = c9 then (if (σ.1 2 (ix (nI i_5))) = k9 then (if (f_X1_isAhead T C σ (nI i_5) a3_5) = 0 then a3_5 else (nI i_5)) else a3_5) else a3_5)) ls (by omega) hres_5 (Eq.subst (motive := fun z => vo z) (show (if (f_X1_isRunnable T C σ (nI i_5)) = 0 then a3_5 else (if (σ.1 0 (ix (nI i_5))) = c9 then (if (σ.1 2 (ix (nI i_5))) = k9 then (if (f_X1_isAhead T C σ (nI i_5) a3_5) = 0 then a3_5 else (nI i_5)) else a3_5) else a3_5)) = (if (f_X1_isRunnable T C σ (nI i_5)) = 0 then a3_5 else (if (σ.1 0 (ix (nI i_5))) = c9 then (if (σ.1 2 (ix (nI i_5))) = k9 then (if (f_X1_isAhead T C σ (nI i_5) a3_5) = 0 then a3_5 else (nI i_5)) else a3_5) else a3_5)) from rfl) (show vo (if (f_X1_isRunnable T C σ (nI i_5)) = 0 then a3_5 else (if (σ.1 0 (ix (nI i_5))) = c9 then (if (σ.1 2 (ix (nI i_5))) = k9 then (if (f_X1_isAhead T C σ (nI i_5) a3_5) = 0 then a3_5 else (nI i_5)) else a3_5) else a3_5)) from (vo.ite hvo_a3_5 (vo.ite (vo.ite (vo.ite hvo_a3_5 (vo_nI (by omega))) hvo_a3_5) hvo_a3_5)))) (lv_sub (l' := [(4, .int (nI (i_5 + 1))), (3, .int (if (f_X1_isRunnable T C σ (nI i_5)) = 0 then a3_5 else (if (σ.1 0 (ix (nI i_5))) = c9 then (if (σ.1 2 (ix (nI i_5))) = k9 then (if (f_X1_isAhead T C σ (nI i_5) a3_5) = 0 then a3_5 else (nI i_5)) else a3_5) else a3_5))), (0, .ref (q 0)), (1, .int c9), (2, .int k9)]) hl [0, 1, 2, 3, 4] rfl)
      · refine lv_if_eq (tgt := 60) hx hb dX1_firstOf_20 (by decide) (fun h20 => ?_) (fun h20 => ?_)
        · skip
          refine lv_iload_n hx hb dX1_firstOf_60 rfl (lv_at hl 1 rfl) ?_
          exact K20 _ _ _ _ ⟨a3_5, (Eq.symm (if_pos h20)), rfl, lv_sub hl [0, 1, 2, 3, 4] rfl, rfl, rfl⟩
        · skip
          refine lv_aload_n hx hb dX1_firstOf_23 rfl (lv_at hl 2 rfl) ?_
          refine gf_X1_34 hx hb hts hown hK hP dX1_firstOf_24 ?_
          refine lv_iload hx hb dX1_firstOf_27 (lv_at hl 0 rfl) ?_
          refine ld_0 hx hb hK hP (vp_in_nI (by omega) (by decide)) dX1_firstOf_29 ?_
          refine lv_iload_n hx hb dX1_firstOf_30 rfl (lv_at hl 3 rfl) ?_
          refine lv_icmp_ne (tgt := 60) hx hb dX1_firstOf_31 (by decide) (fun h31 => ?_) (fun h31 => ?_)
          · skip
            refine lv_iload_n hx hb dX1_firstOf_60 rfl (lv_at hl 1 rfl) ?_
            exact K20 _ _ _ _ ⟨a3_5, (Eq.symm (Eq.trans (if_neg h20) (if_neg h31))), rfl, lv_sub hl [0, 1, 2, 3, 4] rfl, rfl, rfl⟩
          · skip
            refine lv_aload_n hx hb dX1_firstOf_34 rfl (lv_at hl 2 rfl) ?_
            refine gf_X1_40 hx hb hts hown hK hP dX1_firstOf_35 ?_
            refine lv_iload hx hb dX1_firstOf_38 (lv_at hl 0 rfl) ?_
            refine ld_2 hx hb hK hP (vp_in_nI (by omega) (by decide)) dX1_firstOf_40 ?_
            refine lv_iload_n hx hb dX1_firstOf_41 rfl (lv_at hl 4 rfl) ?_
            refine lv_icmp_ne (tgt := 60) hx hb dX1_firstOf_42 (by decide) (fun h42 => ?_) (fun h42 => ?_)
            · skip
              refine lv_iload_n hx hb dX1_firstOf_60 rfl (lv_at hl 1 rfl) ?_
              exact K20 _ _ _ _ ⟨a3_5, (Eq.symm (Eq.trans (Eq.trans (if_neg h20) (if_pos h31)) (if_neg h42))), rfl, lv_sub hl [0, 1, 2, 3, 4] rfl, rfl, rfl⟩
            · skip
              refine lv_aload_n hx hb dX1_firstOf_45 rfl (lv_at hl 2 rfl) ?_
              refine lv_iload hx hb dX1_firstOf_46 (lv_at hl 0 rfl) ?_
              refine lv_iload_n hx hb dX1_firstOf_48 rfl (lv_at hl 1 rfl) ?_
              refine cl_RI (k_X1_isAhead l E q hq hT hC σ hI (nI i_5) a3_5 (vp_in_nI (by omega) (by decide)) hvo_a3_5) gw_X1_90 hd_X1_isAhead ⟨rfl, rfl⟩ S0 hK hP (rest := []) rfl hl.1 (Nat.le_of_ble_eq_true rfl) ⟨(Nat.le_of_ble_eq_true rfl), (Nat.le_of_ble_eq_true rfl)⟩ ⟨Nat.zero_le _, Nat.zero_le _⟩ dX1_firstOf_49 (fun hex => ?_)
              refine lv_if_eq (tgt := 60) hx hb dX1_firstOf_52 (by decide) (fun h52 => ?_) (fun h52 => ?_)
              · skip
                refine lv_iload_n hx hb dX1_firstOf_60 rfl (lv_at hl 1 rfl) ?_
                exact K20 _ _ _ _ ⟨a3_5, (Eq.symm (Eq.trans (Eq.trans (Eq.trans (if_neg h20) (if_pos h31)) (if_pos h42)) (if_pos h52))), rfl, lv_sub hl [0, 1, 2, 3, 4] rfl, rfl, rfl⟩
              · skip
                refine lv_iload hx hb dX1_firstOf_55 (lv_at hl 0 rfl) ?_
                refine lv_goto (tgt := 61) hx hb dX1_firstOf_57 (by decide) ?_
                exact K20 _ _ _ _ ⟨(nI i_5), (Eq.symm (Eq.trans (Eq.trans (Eq.trans (if_neg h20) (if_pos h31)) (if_pos h42)) (if_neg h52))), rfl, lv_sub hl [0, 1, 2, 3, 4] rfl, rfl, rfl⟩
  exact L_5 T 0 (-1) ls (Nat.zero_add T) rfl vo_1 (lv_sub hl [0, 1, 2, 3, 4] rfl)
def F_X1_toSteal_5 (T : Nat) (C : Nat) (σ : St) (r9 : Int32) (k9 : Int32) : Nat → Int32 → Int32 := fun i_5 z => (if (σ.1 3 (ix (nI i_5))) = 0 then (if ((σ.1 0 (ix (nI i_5))) / 2) = r9 then z else (if (σ.1 2 (ix (nI i_5))) = k9 then (if (f_X1_isAhead T C σ (nI i_5) z) = 0 then z else (nI i_5)) else z)) else z)
def f_X1_toSteal (T C : Nat) (σ : St) (r9 : Int32) (k9 : Int32) : Int32 := (if (σ.2.2 16) = 0 then (-1) else (lp (F_X1_toSteal_5 T C σ r9 k9) T 0 (-1)))
def rm_X1_toSteal : Room := { frames := 2, cells := 0, slots := 0, locals := 47 }
set_option maxHeartbeats 1600000 in
set_option maxRecDepth 100000 in
theorem k_X1_toSteal (l : Launch) (E : Ev) (q : Nat → Nat) (hq : Dq q) {T C : Nat} (hT : T ≤ 16) (hC : 1 ≤ C ∧ C ≤ 4) (σ : St) (hI : Inv T C σ) (r9 : Int32) (k9 : Int32) : RI l 1 E q σ yX1_toSteal cX1_toSteal 5 (some .int) rm_X1_toSteal [.int r9, .int k9] (f_X1_toSteal T C σ r9 k9) (vo (f_X1_toSteal T C σ r9 k9) ∧ True) := by
  refine Met.ofB (by decide) (Nat.le_of_ble_eq_true rfl) (fun p e s m args below meth c ls Q B hQ hPK hl => ?_)
  obtain ⟨hx, hb, hml, hr, hlocks, hown, hts⟩ := B
  have S0 : Fx p m c cX1_toSteal 5 s args RX1 := ⟨hx, hb, hml, hown, hts⟩
  obtain ⟨hP, hK⟩ := hPK
  have hl : lv_has ls 5 [(0, .ref (q 0)), (1, .int r9), (2, .int k9)] := hl
  have hI0 := hI
  refine lv_iconst (v := -1) hx hb dX1_toSteal_0 (by decide) ?_
  refine lv_istore_n (lv' := [(3, .int (-1)), (0, .ref (q 0)), (1, .int r9), (2, .int k9)]) hx hb dX1_toSteal_1 rfl hl (by decide) rfl (fun ls hl => ?_)
  refine lv_iconst (v := 0) hx hb dX1_toSteal_2 (by decide) ?_
  refine lv_istore (lv' := [(4, .int 0), (3, .int (-1)), (0, .ref (q 0)), (1, .int r9), (2, .int k9)]) hx hb dX1_toSteal_3 hl (by decide) rfl (fun ls hl => ?_)
  by_cases hg_5 : (σ.2.2 16) = 0
  · skip
    refine lv_iload hx hb dX1_toSteal_5 (lv_at hl 0 rfl) ?_
    refine lv_aload_n hx hb dX1_toSteal_7 rfl (lv_at hl 2 rfl) ?_
    refine gf_X1_69 hx hb hts hown hK hP dX1_toSteal_8 ?_
    refine lv_icmp_ge (tgt := 78) hx hb dX1_toSteal_11 (by decide) (fun _ => ?_) (fun _ => ?_)
    · skip
      refine lv_iload_n hx hb dX1_toSteal_78 rfl (lv_at hl 1 rfl) ?_
      exact rt_RI hQ hx hb hr hlocks ⟨(Eq.symm (if_pos hg_5)), ⟨Eq.subst (motive := fun z => vo z) (show (-1) = (f_X1_toSteal T C σ r9 k9) from (Eq.symm (if_pos hg_5))) (show vo (-1) from vo_1), trivial⟩⟩ dX1_toSteal_79
    · skip
      refine lv_aload_n hx hb dX1_toSteal_14 rfl (lv_at hl 2 rfl) ?_
      refine gf_X1_62 hx hb hts hown hK hP dX1_toSteal_15 ?_
      refine lv_if_eq (tgt := 78) hx hb dX1_toSteal_18 (by decide) (fun _ => ?_) (fun h => absurd hg_5 h)
      refine lv_iload_n hx hb dX1_toSteal_78 rfl (lv_at hl 1 rfl) ?_
      exact rt_RI hQ hx hb hr hlocks ⟨(Eq.symm (if_pos hg_5)), ⟨Eq.subst (motive := fun z => vo z) (show (-1) = (f_X1_toSteal T C σ r9 k9) from (Eq.symm (if_pos hg_5))) (show vo (-1) from vo_1), trivial⟩⟩ dX1_toSteal_79
  · skip
    have L_5 : ∀ (n_5 i_5 : Nat) (a3_5 : Int32) (ls : Array Slot), i_5 + n_5 = T → lp (F_X1_toSteal_5 T C σ r9 k9) n_5 i_5 a3_5 = (lp (F_X1_toSteal_5 T C σ r9 k9) T 0 (-1)) → vo a3_5 → lv_has ls 5 [(4, .int (nI i_5)), (3, .int a3_5), (0, .ref (q 0)), (1, .int r9), (2, .int k9)] → W p l e rm_X1_toSteal s m args below meth c s.heap [] 0 0 Q (F0 m 5 ls []) := by
      intro n_5
      induction n_5 with
      | zero =>
        intro i_5 a3_5 ls hi_5 hres_5 hvo_a3_5 hl
        have hres : a3_5 = (lp (F_X1_toSteal_5 T C σ r9 k9) T 0 (-1)) := hres_5
        subst hres
        refine lv_iload hx hb dX1_toSteal_5 (lv_at hl 0 rfl) ?_
        refine lv_aload_n hx hb dX1_toSteal_7 rfl (lv_at hl 2 rfl) ?_
        refine gf_X1_69 hx hb hts hown hK hP dX1_toSteal_8 ?_
        refine lv_icmp_ge (tgt := 78) hx hb dX1_toSteal_11 (by decide) (fun _ => ?_) (fun h => absurd (lp_out hI.2.1 (by omega) hi_5) h)
        have hl := lv_sub (l' := [(3, .int (lp (F_X1_toSteal_5 T C σ r9 k9) T 0 (-1))), (0, .ref (q 0)), (1, .int r9), (2, .int k9)]) hl [1, 2, 3, 4] rfl
        refine lv_iload_n hx hb dX1_toSteal_78 rfl (lv_at hl 0 rfl) ?_
        exact rt_RI hQ hx hb hr hlocks ⟨(Eq.symm (if_neg hg_5)), ⟨Eq.subst (motive := fun z => vo z) (show (lp (F_X1_toSteal_5 T C σ r9 k9) T 0 (-1)) = (f_X1_toSteal T C σ r9 k9) from (Eq.symm (if_neg hg_5))) (show vo (lp (F_X1_toSteal_5 T C σ r9 k9) T 0 (-1)) from hvo_a3_5), trivial⟩⟩ dX1_toSteal_79
      | succ n_5 ih_5 =>
        intro i_5 a3_5 ls hi_5 hres_5 hvo_a3_5 hl
        refine lv_iload hx hb dX1_toSteal_5 (lv_at hl 0 rfl) ?_
        refine lv_aload_n hx hb dX1_toSteal_7 rfl (lv_at hl 2 rfl) ?_
        refine gf_X1_69 hx hb hts hown hK hP dX1_toSteal_8 ?_
        refine lv_icmp_ge (tgt := 78) hx hb dX1_toSteal_11 (by decide) (fun h => absurd h (lp_in hI.2.1 (by omega) hi_5)) (fun _ => ?_)
        refine lv_aload_n hx hb dX1_toSteal_14 rfl (lv_at hl 2 rfl) ?_
        refine gf_X1_62 hx hb hts hown hK hP dX1_toSteal_15 ?_
        refine lv_if_eq (tgt := 78) hx hb dX1_toSteal_18 (by decide) (fun h => absurd h hg_5) (fun _ => ?_)
        refine lv_aload_n hx hb dX1_toSteal_21 rfl (lv_at hl 2 rfl) ?_
        refine gf_X1_43 hx hb hts hown hK hP dX1_toSteal_22 ?_
        refine lv_iload hx hb dX1_toSteal_25 (lv_at hl 0 rfl) ?_
        refine ld_3 hx hb hK hP (vp_in_nI (by omega) (by decide)) dX1_toSteal_27 ?_
        refine cutG (fun ls H locs st => ∃ y0 : Int32, y0 = (if (σ.1 3 (ix (nI i_5))) = 0 then (if ((σ.1 0 (ix (nI i_5))) / 2) = r9 then a3_5 else (if (σ.1 2 (ix (nI i_5))) = k9 then (if (f_X1_isAhead T C σ (nI i_5) a3_5) = 0 then a3_5 else (nI i_5)) else a3_5)) else a3_5) ∧ st = [.int y0] ∧ lv_has ls 5 [(4, .int (nI i_5)), (3, .int a3_5), (0, .ref (q 0)), (1, .int r9), (2, .int k9)] ∧ H = s.heap ∧ locs = []) 71 (fun ls H locs st hKp => ?_) (fun K28 => ?_)
        · revert hKp
          refine ex_eq (fun hKp => ?_)
          obtain ⟨rfl, hl, rfl, rfl⟩ := hKp
          refine lv_istore_n (lv' := [(3, .int (if (σ.1 3 (ix (nI i_5))) = 0 then (if ((σ.1 0 (ix (nI i_5))) / 2) = r9 then a3_5 else (if (σ.1 2 (ix (nI i_5))) = k9 then (if (f_X1_isAhead T C σ (nI i_5) a3_5) = 0 then a3_5 else (nI i_5)) else a3_5)) else a3_5)), (4, .int (nI i_5)), (0, .ref (q 0)), (1, .int r9), (2, .int k9)]) hx hb dX1_toSteal_71 rfl hl (by decide) rfl (fun ls hl => ?_)
          refine lv_iinc (v := (nI (i_5 + 1))) (lv' := [(4, .int (nI (i_5 + 1))), (3, .int (if (σ.1 3 (ix (nI i_5))) = 0 then (if ((σ.1 0 (ix (nI i_5))) / 2) = r9 then a3_5 else (if (σ.1 2 (ix (nI i_5))) = k9 then (if (f_X1_isAhead T C σ (nI i_5) a3_5) = 0 then a3_5 else (nI i_5)) else a3_5)) else a3_5)), (0, .ref (q 0)), (1, .int r9), (2, .int k9)]) hx hb dX1_toSteal_72 hl (k := 1) rfl (nI_1 _) (by decide) rfl (fun ls hl => ?_)
          refine lv_goto (tgt := 5) hx hb dX1_toSteal_75 (by decide) ?_
          exact ih_5 (i_5 + 1) (if (σ.1 3 (ix (nI i_5))) = 0 then (if ((σ.1 0 (ix (nI i_5))) / 2) = r9 then a3_5 else (if (σ.1 2 (ix (nI i_5))) = k9 then (if (f_X1_isAhead T C σ (nI i_5) a3_5) = 0 then a3_5 else (nI i_5)) else a3_5)) else a3_5) ls (by omega) hres_5 (Eq.subst (motive := fun z => vo z) (show (if (σ.1 3 (ix (nI i_5))) = 0 then (if ((σ.1 0 (ix (nI i_5))) / 2) = r9 then a3_5 else (if (σ.1 2 (ix (nI i_5))) = k9 then (if (f_X1_isAhead T C σ (nI i_5) a3_5) = 0 then a3_5 else (nI i_5)) else a3_5)) else a3_5) = (if (σ.1 3 (ix (nI i_5))) = 0 then (if ((σ.1 0 (ix (nI i_5))) / 2) = r9 then a3_5 else (if (σ.1 2 (ix (nI i_5))) = k9 then (if (f_X1_isAhead T C σ (nI i_5) a3_5) = 0 then a3_5 else (nI i_5)) else a3_5)) else a3_5) from rfl) (show vo (if (σ.1 3 (ix (nI i_5))) = 0 then (if ((σ.1 0 (ix (nI i_5))) / 2) = r9 then a3_5 else (if (σ.1 2 (ix (nI i_5))) = k9 then (if (f_X1_isAhead T C σ (nI i_5) a3_5) = 0 then a3_5 else (nI i_5)) else a3_5)) else a3_5) from (vo.ite (vo.ite hvo_a3_5 (vo.ite (vo.ite hvo_a3_5 (vo_nI (by omega))) hvo_a3_5)) hvo_a3_5))) (lv_sub (l' := [(4, .int (nI (i_5 + 1))), (3, .int (if (σ.1 3 (ix (nI i_5))) = 0 then (if ((σ.1 0 (ix (nI i_5))) / 2) = r9 then a3_5 else (if (σ.1 2 (ix (nI i_5))) = k9 then (if (f_X1_isAhead T C σ (nI i_5) a3_5) = 0 then a3_5 else (nI i_5)) else a3_5)) else a3_5)), (0, .ref (q 0)), (1, .int r9), (2, .int k9)]) hl [0, 1, 2, 3, 4] rfl)
        · refine lv_if_ne (tgt := 70) hx hb dX1_toSteal_28 (by decide) (fun h28 => ?_) (fun h28 => ?_)
          · skip
            refine lv_iload_n hx hb dX1_toSteal_70 rfl (lv_at hl 1 rfl) ?_
            exact K28 _ _ _ _ ⟨a3_5, (Eq.symm (if_neg h28)), rfl, lv_sub hl [0, 1, 2, 3, 4] rfl, rfl, rfl⟩
          · skip
            refine lv_aload_n hx hb dX1_toSteal_31 rfl (lv_at hl 2 rfl) ?_
            refine gf_X1_34 hx hb hts hown hK hP dX1_toSteal_32 ?_
            refine lv_iload hx hb dX1_toSteal_35 (lv_at hl 0 rfl) ?_
            refine ld_0 hx hb hK hP (vp_in_nI (by omega) (by decide)) dX1_toSteal_37 ?_
            refine lv_iconst (v := 2) hx hb dX1_toSteal_38 (by decide) ?_
            refine lv_idiv hx hb dX1_toSteal_39 (by decide) ?_
            refine lv_iload_n hx hb dX1_toSteal_40 rfl (lv_at hl 3 rfl) ?_
            refine lv_icmp_eq (tgt := 70) hx hb dX1_toSteal_41 (by decide) (fun h41 => ?_) (fun h41 => ?_)
            · skip
              refine lv_iload_n hx hb dX1_toSteal_70 rfl (lv_at hl 1 rfl) ?_
              exact K28 _ _ _ _ ⟨a3_5, (Eq.symm (Eq.trans (if_pos h28) (if_pos h41))), rfl, lv_sub hl [0, 1, 2, 3, 4] rfl, rfl, rfl⟩
            · skip
              refine lv_aload_n hx hb dX1_toSteal_44 rfl (lv_at hl 2 rfl) ?_
              refine gf_X1_40 hx hb hts hown hK hP dX1_toSteal_45 ?_
              refine lv_iload hx hb dX1_toSteal_48 (lv_at hl 0 rfl) ?_
              refine ld_2 hx hb hK hP (vp_in_nI (by omega) (by decide)) dX1_toSteal_50 ?_
              refine lv_iload_n hx hb dX1_toSteal_51 rfl (lv_at hl 4 rfl) ?_
              refine lv_icmp_ne (tgt := 70) hx hb dX1_toSteal_52 (by decide) (fun h52 => ?_) (fun h52 => ?_)
              · skip
                refine lv_iload_n hx hb dX1_toSteal_70 rfl (lv_at hl 1 rfl) ?_
                exact K28 _ _ _ _ ⟨a3_5, (Eq.symm (Eq.trans (Eq.trans (if_pos h28) (if_neg h41)) (if_neg h52))), rfl, lv_sub hl [0, 1, 2, 3, 4] rfl, rfl, rfl⟩
              · skip
                refine lv_aload_n hx hb dX1_toSteal_55 rfl (lv_at hl 2 rfl) ?_
                refine lv_iload hx hb dX1_toSteal_56 (lv_at hl 0 rfl) ?_
                refine lv_iload_n hx hb dX1_toSteal_58 rfl (lv_at hl 1 rfl) ?_
                refine cl_RI (k_X1_isAhead l E q hq hT hC σ hI (nI i_5) a3_5 (vp_in_nI (by omega) (by decide)) hvo_a3_5) gw_X1_90 hd_X1_isAhead ⟨rfl, rfl⟩ S0 hK hP (rest := []) rfl hl.1 (Nat.le_of_ble_eq_true rfl) ⟨(Nat.le_of_ble_eq_true rfl), (Nat.le_of_ble_eq_true rfl)⟩ ⟨Nat.zero_le _, Nat.zero_le _⟩ dX1_toSteal_59 (fun hex => ?_)
                refine lv_if_eq (tgt := 70) hx hb dX1_toSteal_62 (by decide) (fun h62 => ?_) (fun h62 => ?_)
                · skip
                  refine lv_iload_n hx hb dX1_toSteal_70 rfl (lv_at hl 1 rfl) ?_
                  exact K28 _ _ _ _ ⟨a3_5, (Eq.symm (Eq.trans (Eq.trans (Eq.trans (if_pos h28) (if_neg h41)) (if_pos h52)) (if_pos h62))), rfl, lv_sub hl [0, 1, 2, 3, 4] rfl, rfl, rfl⟩
                · skip
                  refine lv_iload hx hb dX1_toSteal_65 (lv_at hl 0 rfl) ?_
                  refine lv_goto (tgt := 71) hx hb dX1_toSteal_67 (by decide) ?_
                  exact K28 _ _ _ _ ⟨(nI i_5), (Eq.symm (Eq.trans (Eq.trans (Eq.trans (if_pos h28) (if_neg h41)) (if_pos h52)) (if_neg h62))), rfl, lv_sub hl [0, 1, 2, 3, 4] rfl, rfl, rfl⟩
    exact L_5 T 0 (-1) ls (Nat.zero_add T) rfl vo_1 (lv_sub hl [0, 1, 2, 3, 4] rfl)
def g_X1_goesTo (T C : Nat) (σ : St) (t : Int32) (c9 : Int32) : St := (sI (sJ σ 4 (ix t) ((f_X1_relative T C σ t) + (σ.2.1 7 (ix c9)))) 0 (ix t) c9)
def rm_X1_goesTo : Room := { frames := 1, cells := 0, slots := 0, locals := 21 }
set_option maxHeartbeats 1600000 in
set_option maxRecDepth 100000 in
theorem k_X1_goesTo (l : Launch) (E : Ev) (q : Nat → Nat) (hq : Dq q) {T C : Nat} (hT : T ≤ 16) (hC : 1 ≤ C ∧ C ≤ 4) (σ : St) (hI : Inv T C σ) (t : Int32) (c9 : Int32) (hp0 : vp_in t 16) (hp1 : vp_in c9 8) : WV l 1 E q σ yX1_goesTo cX1_goesTo 3 none rm_X1_goesTo [.int t, .int c9] (g_X1_goesTo T C σ t c9) (Inv T C (g_X1_goesTo T C σ t c9) ∧ True) := by
  refine Met.ofB (by decide) (Nat.le_of_ble_eq_true rfl) (fun p e s m args below meth c ls Q B hQ hPK hl => ?_)
  obtain ⟨hx, hb, hml, hr, hlocks, hown, hts⟩ := B
  have S0 : Fx p m c cX1_goesTo 3 s args RX1 := ⟨hx, hb, hml, hown, hts⟩
  obtain ⟨hP, hK⟩ := hPK
  suffices KH : ∀ (H : Heap) (locs : List Loc), PP 1 E q σ H → va_S (Aq q) s.heap H locs → W p l e rm_X1_goesTo s m args below meth c H locs 0 0 Q (F0 m 0 ls []) from KH s.heap [] hP va_S.rf
  intro H locs hP hS
  have hl : lv_has ls 3 [(0, .ref (q 0)), (1, .int t), (2, .int c9)] := hl
  have hI0 := hI
  refine lv_aload_n hx hb dX1_goesTo_0 rfl (lv_at hl 0 rfl) ?_
  refine gf_X1_46 hx hb hts hown hK hP dX1_goesTo_1 ?_
  refine lv_iload_n hx hb dX1_goesTo_4 rfl (lv_at hl 1 rfl) ?_
  refine lv_aload_n hx hb dX1_goesTo_5 rfl (lv_at hl 0 rfl) ?_
  refine lv_iload_n hx hb dX1_goesTo_6 rfl (lv_at hl 1 rfl) ?_
  refine cl_RJ (k_X1_relative l E q hq hT hC σ hI t hp0) gw_X1_82 hd_X1_relative ⟨rfl, rfl⟩ S0 hK hP (rest := [.int t, .ref (q 5)]) rfl hl.1 (Nat.le_of_ble_eq_true rfl) ⟨(Nat.le_of_ble_eq_true rfl), (Nat.le_of_ble_eq_true rfl)⟩ ⟨Nat.zero_le _, Nat.zero_le _⟩ dX1_goesTo_7 (fun hex => ?_)
  refine lv_aload_n hx hb dX1_goesTo_10 rfl (lv_at hl 0 rfl) ?_
  refine gf_X1_13 hx hb hts hown hK hP dX1_goesTo_11 ?_
  refine lv_iload_n hx hb dX1_goesTo_14 rfl (lv_at hl 2 rfl) ?_
  refine ld_7 hx hb hK hP hp1 dX1_goesTo_15 ?_
  refine lv_ladd hx hb dX1_goesTo_16 ?_
  refine st_4 hx hb hK hq hP hS hp0 dX1_goesTo_17 (fun H locs hP hS => ?_)
  have hI : Inv T C (sJ σ 4 (ix t) ((f_X1_relative T C σ t) + (σ.2.1 7 (ix c9)))) := inv_sJ hI
  refine lv_aload_n hx hb dX1_goesTo_18 rfl (lv_at hl 0 rfl) ?_
  refine gf_X1_34 hx hb hts hown hK hP dX1_goesTo_19 ?_
  refine lv_iload_n hx hb dX1_goesTo_22 rfl (lv_at hl 1 rfl) ?_
  refine lv_iload_n hx hb dX1_goesTo_23 rfl (lv_at hl 2 rfl) ?_
  refine st_0 hx hb hK hq hP hS hp0 dX1_goesTo_24 (fun H locs hP hS => ?_)
  have hI : Inv T C (sI (sJ σ 4 (ix t) ((f_X1_relative T C σ t) + (σ.2.1 7 (ix c9)))) 0 (ix t) c9) := inv_cpu hp1 hI
  exact rt_WV hQ hx hb hr hlocks (Eq.subst (motive := fun z => PP 1 E q z H) (show (sI (sJ σ 4 (ix t) ((f_X1_relative T C σ t) + (σ.2.1 7 (ix c9)))) 0 (ix t) c9) = (g_X1_goesTo T C σ t c9) from rfl) hP) hS ⟨Eq.subst (motive := fun z => Inv T C z) (show (sI (sJ σ 4 (ix t) ((f_X1_relative T C σ t) + (σ.2.1 7 (ix c9)))) 0 (ix t) c9) = (g_X1_goesTo T C σ t c9) from rfl) hI, trivial⟩ dX1_goesTo_25
def F_X1_queued_4 (T : Nat) (C : Nat) (σ : St) (c9 : Int32) : Nat → Int32 → Int32 := fun i_4 z => (z + (if (f_X1_isRunnable T C σ (nI i_4)) = 0 then 0 else (if (σ.1 0 (ix (nI i_4))) = c9 then 1 else 0)))
def f_X1_queued (T C : Nat) (σ : St) (c9 : Int32) : Int32 := (lp (F_X1_queued_4 T C σ c9) T 0 0)
def rm_X1_queued : Room := { frames := 1, cells := 0, slots := 0, locals := 21 }
set_option maxHeartbeats 1600000 in
set_option maxRecDepth 100000 in
theorem k_X1_queued (l : Launch) (E : Ev) (q : Nat → Nat) (hq : Dq q) {T C : Nat} (hT : T ≤ 16) (hC : 1 ≤ C ∧ C ≤ 4) (σ : St) (hI : Inv T C σ) (c9 : Int32) : RI l 1 E q σ yX1_queued cX1_queued 4 (some .int) rm_X1_queued [.int c9] (f_X1_queued T C σ c9) True := by
  refine Met.ofB (by decide) (Nat.le_of_ble_eq_true rfl) (fun p e s m args below meth c ls Q B hQ hPK hl => ?_)
  obtain ⟨hx, hb, hml, hr, hlocks, hown, hts⟩ := B
  have S0 : Fx p m c cX1_queued 4 s args RX1 := ⟨hx, hb, hml, hown, hts⟩
  obtain ⟨hP, hK⟩ := hPK
  have hl : lv_has ls 4 [(0, .ref (q 0)), (1, .int c9)] := hl
  have hI0 := hI
  refine lv_iconst (v := 0) hx hb dX1_queued_0 (by decide) ?_
  refine lv_istore_n (lv' := [(2, .int 0), (0, .ref (q 0)), (1, .int c9)]) hx hb dX1_queued_1 rfl hl (by decide) rfl (fun ls hl => ?_)
  refine lv_iconst (v := 0) hx hb dX1_queued_2 (by decide) ?_
  refine lv_istore_n (lv' := [(3, .int 0), (2, .int 0), (0, .ref (q 0)), (1, .int c9)]) hx hb dX1_queued_3 rfl hl (by decide) rfl (fun ls hl => ?_)
  have L_4 : ∀ (n_4 i_4 : Nat) (a2_4 : Int32) (ls : Array Slot), i_4 + n_4 = T → lp (F_X1_queued_4 T C σ c9) n_4 i_4 a2_4 = (lp (F_X1_queued_4 T C σ c9) T 0 0) → lv_has ls 4 [(3, .int (nI i_4)), (2, .int a2_4), (0, .ref (q 0)), (1, .int c9)] → W p l e rm_X1_queued s m args below meth c s.heap [] 0 0 Q (F0 m 4 ls []) := by
    intro n_4
    induction n_4 with
    | zero =>
      intro i_4 a2_4 ls hi_4 hres_4 hl
      have hres : a2_4 = (lp (F_X1_queued_4 T C σ c9) T 0 0) := hres_4
      subst hres
      refine lv_iload_n hx hb dX1_queued_4 rfl (lv_at hl 0 rfl) ?_
      refine lv_aload_n hx hb dX1_queued_5 rfl (lv_at hl 2 rfl) ?_
      refine gf_X1_69 hx hb hts hown hK hP dX1_queued_6 ?_
      refine lv_icmp_ge (tgt := 44) hx hb dX1_queued_9 (by decide) (fun _ => ?_) (fun h => absurd (lp_out hI.2.1 (by omega) hi_4) h)
      have hl := lv_sub (l' := [(2, .int (lp (F_X1_queued_4 T C σ c9) T 0 0)), (0, .ref (q 0)), (1, .int c9)]) hl [1, 2, 3] rfl
      refine lv_iload_n hx hb dX1_queued_44 rfl (lv_at hl 0 rfl) ?_
      exact rt_RI hQ hx hb hr hlocks ⟨rfl, trivial⟩ dX1_queued_45
    | succ n_4 ih_4 =>
      intro i_4 a2_4 ls hi_4 hres_4 hl
      refine lv_iload_n hx hb dX1_queued_4 rfl (lv_at hl 0 rfl) ?_
      refine lv_aload_n hx hb dX1_queued_5 rfl (lv_at hl 2 rfl) ?_
      refine gf_X1_69 hx hb hts hown hK hP dX1_queued_6 ?_
      refine lv_icmp_ge (tgt := 44) hx hb dX1_queued_9 (by decide) (fun h => absurd h (lp_in hI.2.1 (by omega) hi_4)) (fun _ => ?_)
      refine lv_iload_n hx hb dX1_queued_12 rfl (lv_at hl 1 rfl) ?_
      refine lv_aload_n hx hb dX1_queued_13 rfl (lv_at hl 2 rfl) ?_
      refine lv_iload_n hx hb dX1_queued_14 rfl (lv_at hl 0 rfl) ?_
      refine cl_RI (k_X1_isRunnable l E q hq hT hC σ hI (nI i_4) (vp_in_nI (by omega) (by decide))) gw_X1_86 hd_X1_isRunnable ⟨rfl, rfl⟩ S0 hK hP (rest := [.int a2_4]) rfl hl.1 (Nat.le_of_ble_eq_true rfl) ⟨(Nat.le_of_ble_eq_true rfl), (Nat.le_of_ble_eq_true rfl)⟩ ⟨Nat.zero_le _, Nat.zero_le _⟩ dX1_queued_15 (fun hex => ?_)
      refine cutG (fun ls H locs st => ∃ y0 : Int32, y0 = (if (f_X1_isRunnable T C σ (nI i_4)) = 0 then 0 else (if (σ.1 0 (ix (nI i_4))) = c9 then 1 else 0)) ∧ st = [.int y0, .int a2_4] ∧ lv_has ls 4 [(3, .int (nI i_4)), (2, .int a2_4), (0, .ref (q 0)), (1, .int c9)] ∧ H = s.heap ∧ locs = []) 36 (fun ls H locs st hKp => ?_) (fun K18 => ?_)
      · revert hKp
        refine ex_eq (fun hKp => ?_)
        obtain ⟨rfl, hl, rfl, rfl⟩ := hKp
        refine lv_iadd hx hb dX1_queued_36 ?_
        refine lv_istore_n (lv' := [(2, .int (a2_4 + (if (f_X1_isRunnable T C σ (nI i_4)) = 0 then 0 else (if (σ.1 0 (ix (nI i_4))) = c9 then 1 else 0)))), (3, .int (nI i_4)), (0, .ref (q 0)), (1, .int c9)]) hx hb dX1_queued_37 rfl hl (by decide) rfl (fun ls hl => ?_)
        refine lv_iinc (v := (nI (i_4 + 1))) (lv' := [(3, .int (nI (i_4 + 1))), (2, .int (a2_4 + (if (f_X1_isRunnable T C σ (nI i_4)) = 0 then 0 else (if (σ.1 0 (ix (nI i_4))) = c9 then 1 else 0)))), (0, .ref (q 0)), (1, .int c9)]) hx hb dX1_queued_38 hl (k := 1) rfl (nI_1 _) (by decide) rfl (fun ls hl => ?_)
        refine lv_goto (tgt := 4) hx hb dX1_queued_41 (by decide) ?_
        exact ih_4 (i_4 + 1) (a2_4 + (if (f_X1_isRunnable T C σ (nI i_4)) = 0 then 0 else (if (σ.1 0 (ix (nI i_4))) = c9 then 1 else 0))) ls (by omega) hres_4 (lv_sub (l' := [(3, .int (nI (i_4 + 1))), (2, .int (a2_4 + (if (f_X1_isRunnable T C σ (nI i_4)) = 0 then 0 else (if (σ.1 0 (ix (nI i_4))) = c9 then 1 else 0)))), (0, .ref (q 0)), (1, .int c9)]) hl [0, 1, 2, 3] rfl)
      · refine lv_if_eq (tgt := 35) hx hb dX1_queued_18 (by decide) (fun h18 => ?_) (fun h18 => ?_)
        · skip
          refine lv_iconst (v := 0) hx hb dX1_queued_35 (by decide) ?_
          exact K18 _ _ _ _ ⟨0, (Eq.symm (if_pos h18)), rfl, lv_sub hl [0, 1, 2, 3] rfl, rfl, rfl⟩
        · skip
          refine lv_aload_n hx hb dX1_queued_21 rfl (lv_at hl 2 rfl) ?_
          refine gf_X1_34 hx hb hts hown hK hP dX1_queued_22 ?_
          refine lv_iload_n hx hb dX1_queued_25 rfl (lv_at hl 0 rfl) ?_
          refine ld_0 hx hb hK hP (vp_in_nI (by omega) (by decide)) dX1_queued_26 ?_
          refine lv_iload_n hx hb dX1_queued_27 rfl (lv_at hl 3 rfl) ?_
          refine lv_icmp_ne (tgt := 35) hx hb dX1_queued_28 (by decide) (fun h28 => ?_) (fun h28 => ?_)
          · skip
            refine lv_iconst (v := 0) hx hb dX1_queued_35 (by decide) ?_
            exact K18 _ _ _ _ ⟨0, (Eq.symm (Eq.trans (if_neg h18) (if_neg h28))), rfl, lv_sub hl [0, 1, 2, 3] rfl, rfl, rfl⟩
          · skip
            refine lv_iconst (v := 1) hx hb dX1_queued_31 (by decide) ?_
            refine lv_goto (tgt := 36) hx hb dX1_queued_32 (by decide) ?_
            exact K18 _ _ _ _ ⟨1, (Eq.symm (Eq.trans (if_neg h18) (if_pos h28))), rfl, lv_sub hl [0, 1, 2, 3] rfl, rfl, rfl⟩
  exact L_4 T 0 0 ls (Nat.zero_add T) rfl (lv_sub hl [0, 1, 2, 3] rfl)
def F_X1_picks_31 (T : Nat) (C : Nat) (σ : St) (j : Nat) : Nat → St → St := fun i_31 z => (sI (sI (if ((if (f_X1_leader T C σ (nI j)) = (-1) then (-1) else (f_X1_firstOf T C z (nI i_31) (z.1 12 (ix (nI j))))) : Int32) = (-1) then (if (f_X1_leader T C σ (nI j)) = (-1) then z else (if (f_X1_toSteal T C z (nI j) (z.1 12 (ix (nI j)))) = (-1) then z else (sS (g_X1_goesTo T C z (f_X1_toSteal T C z (nI j) (z.1 12 (ix (nI j)))) (nI i_31)) 15 (((g_X1_goesTo T C z (f_X1_toSteal T C z (nI j) (z.1 12 (ix (nI j)))) (nI i_31)).2.2 15) + 1)))) else z) 8 (ix (nI i_31)) (if ((if (f_X1_leader T C σ (nI j)) = (-1) then (-1) else (f_X1_firstOf T C z (nI i_31) (z.1 12 (ix (nI j))))) : Int32) = (-1) then (if (f_X1_leader T C σ (nI j)) = (-1) then (if (f_X1_leader T C σ (nI j)) = (-1) then (-1) else (f_X1_firstOf T C z (nI i_31) (z.1 12 (ix (nI j))))) else (f_X1_toSteal T C z (nI j) (z.1 12 (ix (nI j))))) else (if (f_X1_leader T C σ (nI j)) = (-1) then (-1) else (f_X1_firstOf T C z (nI i_31) (z.1 12 (ix (nI j))))))) 9 (ix (nI i_31)) (vp_nar .boolean (if ((if ((if (f_X1_leader T C σ (nI j)) = (-1) then (-1) else (f_X1_firstOf T C z (nI i_31) (z.1 12 (ix (nI j))))) : Int32) = (-1) then (if (f_X1_leader T C σ (nI j)) = (-1) then (if (f_X1_leader T C σ (nI j)) = (-1) then (-1) else (f_X1_firstOf T C z (nI i_31) (z.1 12 (ix (nI j))))) else (f_X1_toSteal T C z (nI j) (z.1 12 (ix (nI j))))) else (if (f_X1_leader T C σ (nI j)) = (-1) then (-1) else (f_X1_firstOf T C z (nI i_31) (z.1 12 (ix (nI j)))))) : Int32) = (-1) then (if (f_X1_queued T C (sI (if ((if (f_X1_leader T C σ (nI j)) = (-1) then (-1) else (f_X1_firstOf T C z (nI i_31) (z.1 12 (ix (nI j))))) : Int32) = (-1) then (if (f_X1_leader T C σ (nI j)) = (-1) then z else (if (f_X1_toSteal T C z (nI j) (z.1 12 (ix (nI j)))) = (-1) then z else (sS (g_X1_goesTo T C z (f_X1_toSteal T C z (nI j) (z.1 12 (ix (nI j)))) (nI i_31)) 15 (((g_X1_goesTo T C z (f_X1_toSteal T C z (nI j) (z.1 12 (ix (nI j)))) (nI i_31)).2.2 15) + 1)))) else z) 8 (ix (nI i_31)) (if ((if (f_X1_leader T C σ (nI j)) = (-1) then (-1) else (f_X1_firstOf T C z (nI i_31) (z.1 12 (ix (nI j))))) : Int32) = (-1) then (if (f_X1_leader T C σ (nI j)) = (-1) then (if (f_X1_leader T C σ (nI j)) = (-1) then (-1) else (f_X1_firstOf T C z (nI i_31) (z.1 12 (ix (nI j))))) else (f_X1_toSteal T C z (nI j) (z.1 12 (ix (nI j))))) else (if (f_X1_leader T C σ (nI j)) = (-1) then (-1) else (f_X1_firstOf T C z (nI i_31) (z.1 12 (ix (nI j))))))) (nI i_31)) ≤ 0 then 0 else 1) else 0)))
def F_X1_picks_150 (T : Nat) (C : Nat) (j : Nat) : Nat → St → St := fun i_150 z => (if (f_X1_isRunnable T C z (nI i_150)) = 0 then z else (if ((z.1 0 (ix (nI i_150))) / 2) = (nI j) then (sI z 3 (ix (nI i_150)) (if (z.1 8 (ix (z.1 0 (ix (nI i_150))))) = (nI i_150) then 1 else 0)) else z))
def g_X1_picks (T C : Nat) (σ : St) (j : Nat) : St := (lp (F_X1_picks_150 T C j) T 0 (lp (F_X1_picks_31 T C σ j) 2 (2 * j) (sI σ 12 (ix (nI j)) (if (f_X1_leader T C σ (nI j)) = (-1) then (-1) else (σ.1 2 (ix (f_X1_leader T C σ (nI j))))))))
def rm_X1_picks : Room := { frames := 3, cells := 0, slots := 0, locals := 71 }
set_option maxHeartbeats 1600000 in
set_option maxRecDepth 100000 in
theorem k_X1_picks (l : Launch) (E : Ev) (q : Nat → Nat) (hq : Dq q) {T C : Nat} (hT : T ≤ 16) (hC : 1 ≤ C ∧ C ≤ 4) (σ : St) (hI : Inv T C σ) (j : Nat) (hp0 : j < 4) : WV l 1 E q σ yX1_picks cX1_picks 5 none rm_X1_picks [.int (nI j)] (g_X1_picks T C σ j) (Inv T C (g_X1_picks T C σ j) ∧ True) := by
  refine Met.ofB (by decide) (Nat.le_of_ble_eq_true rfl) (fun p e s m args below meth c ls Q B hQ hPK hl => ?_)
  obtain ⟨hx, hb, hml, hr, hlocks, hown, hts⟩ := B
  have S0 : Fx p m c cX1_picks 5 s args RX1 := ⟨hx, hb, hml, hown, hts⟩
  obtain ⟨hP, hK⟩ := hPK
  suffices KH : ∀ (H : Heap) (locs : List Loc), PP 1 E q σ H → va_S (Aq q) s.heap H locs → W p l e rm_X1_picks s m args below meth c H locs 0 0 Q (F0 m 0 ls []) from KH s.heap [] hP va_S.rf
  intro H locs hP hS
  have hl : lv_has ls 5 [(0, .ref (q 0)), (1, .int (nI j))] := hl
  have hI0 := hI
  refine lv_aload_n hx hb dX1_picks_0 rfl (lv_at hl 0 rfl) ?_
  refine lv_iload_n hx hb dX1_picks_1 rfl (lv_at hl 1 rfl) ?_
  refine cl_RI (k_X1_leader l E q hq hT hC σ hI (nI j) ) gw_X1_94 hd_X1_leader ⟨rfl, rfl⟩ S0 hK hP (rest := []) rfl hl.1 (Nat.le_of_ble_eq_true rfl) ⟨(Nat.le_of_ble_eq_true rfl), (Nat.le_of_ble_eq_true rfl)⟩ ⟨Nat.zero_le _, Nat.zero_le _⟩ dX1_picks_2 (fun hex => ?_)
  obtain ⟨hx2_0, -⟩ := hex
  refine lv_istore_n (lv' := [(2, .int (f_X1_leader T C σ (nI j))), (0, .ref (q 0)), (1, .int (nI j))]) hx hb dX1_picks_5 rfl hl (by decide) rfl (fun ls hl => ?_)
  refine lv_aload_n hx hb dX1_picks_6 rfl (lv_at hl 1 rfl) ?_
  refine gf_X1_31 hx hb hts hown hK hP dX1_picks_7 ?_
  refine lv_iload_n hx hb dX1_picks_10 rfl (lv_at hl 2 rfl) ?_
  refine lv_iload_n hx hb dX1_picks_11 rfl (lv_at hl 0 rfl) ?_
  refine lv_iconst (v := -1) hx hb dX1_picks_12 (by decide) ?_
  refine cutG (fun ls H locs st => ∃ y0 : Int32, y0 = (if (f_X1_leader T C σ (nI j)) = (-1) then (-1) else (σ.1 2 (ix (f_X1_leader T C σ (nI j))))) ∧ st = [.int y0, .int (nI j), .ref (q 13)] ∧ lv_has ls 5 [(2, .int (f_X1_leader T C σ (nI j))), (0, .ref (q 0)), (1, .int (nI j))] ∧ PP 1 E q σ H ∧ va_S (Aq q) s.heap H locs ∧ Inv T C σ) 26 (fun ls H locs st hKp => ?_) (fun K13 => ?_)
  · revert hKp
    refine ex_eq (fun hKp => ?_)
    obtain ⟨rfl, hl, hP, hS, hI⟩ := hKp
    refine st_12 hx hb hK hq hP hS (vp_in_nI (by omega) (by decide)) dX1_picks_26 (fun H locs hP hS => ?_)
    have hI : Inv T C (sI σ 12 (ix (nI j)) (if (f_X1_leader T C σ (nI j)) = (-1) then (-1) else (σ.1 2 (ix (f_X1_leader T C σ (nI j)))))) := inv_sI (by decide) hI
    refine lv_iconst (v := 2) hx hb dX1_picks_27 (by decide) ?_
    refine lv_iload_n hx hb dX1_picks_28 rfl (lv_at hl 2 rfl) ?_
    refine lv_imul hx hb dX1_picks_29 ?_
    rw [mul2 j]
    refine lv_istore_n (lv' := [(3, .int (nI (2 * j))), (2, .int (f_X1_leader T C σ (nI j))), (0, .ref (q 0)), (1, .int (nI j))]) hx hb dX1_picks_30 rfl hl (by decide) rfl (fun ls hl => ?_)
    have L_31 : ∀ (n_31 i_31 : Nat) (τ_31 : St) (ls : Array Slot) (H : Heap) (locs : List Loc), i_31 + n_31 = (2 * j + 2) → lp (F_X1_picks_31 T C σ j) n_31 i_31 τ_31 = (lp (F_X1_picks_31 T C σ j) 2 (2 * j) (sI σ 12 (ix (nI j)) (if (f_X1_leader T C σ (nI j)) = (-1) then (-1) else (σ.1 2 (ix (f_X1_leader T C σ (nI j))))))) → Inv T C τ_31 → lv_has ls 5 [(3, .int (nI i_31)), (2, .int (f_X1_leader T C σ (nI j))), (0, .ref (q 0)), (1, .int (nI j))] → PP 1 E q τ_31 H → va_S (Aq q) s.heap H locs → W p l e rm_X1_picks s m args below meth c H locs 0 0 Q (F0 m 31 ls []) := by
      intro n_31
      induction n_31 with
      | zero =>
        intro i_31 τ_31 ls H locs hi_31 hres_31 hI hl hP hS
        have hres : τ_31 = (lp (F_X1_picks_31 T C σ j) 2 (2 * j) (sI σ 12 (ix (nI j)) (if (f_X1_leader T C σ (nI j)) = (-1) then (-1) else (σ.1 2 (ix (f_X1_leader T C σ (nI j))))))) := hres_31
        subst hres
        refine lv_iload_n hx hb dX1_picks_31 rfl (lv_at hl 0 rfl) ?_
        refine lv_iconst (v := 2) hx hb dX1_picks_32 (by decide) ?_
        refine lv_iload_n hx hb dX1_picks_33 rfl (lv_at hl 3 rfl) ?_
        refine lv_imul hx hb dX1_picks_34 ?_
        rw [mul2 j]
        refine lv_iconst (v := 2) hx hb dX1_picks_35 (by decide) ?_
        refine lv_iadd hx hb dX1_picks_36 ?_
        refine lv_icmp_ge (tgt := 148) hx hb dX1_picks_37 (by decide) (fun _ => ?_) (fun h => absurd (lp_out (nI_p2 (2 * j)) (by omega) hi_31) h)
        have hl := lv_sub (l' := [(2, .int (f_X1_leader T C σ (nI j))), (0, .ref (q 0)), (1, .int (nI j))]) hl [1, 2, 3] rfl
        refine lv_iconst (v := 0) hx hb dX1_picks_148 (by decide) ?_
        refine lv_istore_n (lv' := [(3, .int 0), (2, .int (f_X1_leader T C σ (nI j))), (0, .ref (q 0)), (1, .int (nI j))]) hx hb dX1_picks_149 rfl hl (by decide) rfl (fun ls hl => ?_)
        have L_150 : ∀ (n_150 i_150 : Nat) (τ_150 : St) (ls : Array Slot) (H : Heap) (locs : List Loc), i_150 + n_150 = T → lp (F_X1_picks_150 T C j) n_150 i_150 τ_150 = (lp (F_X1_picks_150 T C j) T 0 (lp (F_X1_picks_31 T C σ j) 2 (2 * j) (sI σ 12 (ix (nI j)) (if (f_X1_leader T C σ (nI j)) = (-1) then (-1) else (σ.1 2 (ix (f_X1_leader T C σ (nI j)))))))) → Inv T C τ_150 → lv_has ls 5 [(3, .int (nI i_150)), (2, .int (f_X1_leader T C σ (nI j))), (0, .ref (q 0)), (1, .int (nI j))] → PP 1 E q τ_150 H → va_S (Aq q) s.heap H locs → W p l e rm_X1_picks s m args below meth c H locs 0 0 Q (F0 m 150 ls []) := by
          intro n_150
          induction n_150 with
          | zero =>
            intro i_150 τ_150 ls H locs hi_150 hres_150 hI hl hP hS
            have hres : τ_150 = (lp (F_X1_picks_150 T C j) T 0 (lp (F_X1_picks_31 T C σ j) 2 (2 * j) (sI σ 12 (ix (nI j)) (if (f_X1_leader T C σ (nI j)) = (-1) then (-1) else (σ.1 2 (ix (f_X1_leader T C σ (nI j)))))))) := hres_150
            subst hres
            refine lv_iload_n hx hb dX1_picks_150 rfl (lv_at hl 0 rfl) ?_
            refine lv_aload_n hx hb dX1_picks_151 rfl (lv_at hl 2 rfl) ?_
            refine gf_X1_69 hx hb hts hown hK hP dX1_picks_152 ?_
            refine lv_icmp_ge (tgt := 210) hx hb dX1_picks_155 (by decide) (fun _ => ?_) (fun h => absurd (lp_out hI.2.1 (by omega) hi_150) h)
            have hl := lv_sub (l' := [(2, .int (f_X1_leader T C σ (nI j))), (0, .ref (q 0)), (1, .int (nI j))]) hl [1, 2, 3] rfl
            exact rt_WV hQ hx hb hr hlocks (Eq.subst (motive := fun z => PP 1 E q z H) (show (lp (F_X1_picks_150 T C j) T 0 (lp (F_X1_picks_31 T C σ j) 2 (2 * j) (sI σ 12 (ix (nI j)) (if (f_X1_leader T C σ (nI j)) = (-1) then (-1) else (σ.1 2 (ix (f_X1_leader T C σ (nI j)))))))) = (g_X1_picks T C σ j) from rfl) hP) hS ⟨Eq.subst (motive := fun z => Inv T C z) (show (lp (F_X1_picks_150 T C j) T 0 (lp (F_X1_picks_31 T C σ j) 2 (2 * j) (sI σ 12 (ix (nI j)) (if (f_X1_leader T C σ (nI j)) = (-1) then (-1) else (σ.1 2 (ix (f_X1_leader T C σ (nI j)))))))) = (g_X1_picks T C σ j) from rfl) hI, trivial⟩ dX1_picks_210
          | succ n_150 ih_150 =>
            intro i_150 τ_150 ls H locs hi_150 hres_150 hI hl hP hS
            refine lv_iload_n hx hb dX1_picks_150 rfl (lv_at hl 0 rfl) ?_
            refine lv_aload_n hx hb dX1_picks_151 rfl (lv_at hl 2 rfl) ?_
            refine gf_X1_69 hx hb hts hown hK hP dX1_picks_152 ?_
            refine lv_icmp_ge (tgt := 210) hx hb dX1_picks_155 (by decide) (fun h => absurd h (lp_in hI.2.1 (by omega) hi_150)) (fun _ => ?_)
            refine lv_aload_n hx hb dX1_picks_158 rfl (lv_at hl 2 rfl) ?_
            refine lv_iload_n hx hb dX1_picks_159 rfl (lv_at hl 0 rfl) ?_
            refine cl_RI (k_X1_isRunnable l E q hq hT hC τ_150 hI (nI i_150) (vp_in_nI (by omega) (by decide))) gw_X1_86 hd_X1_isRunnable ⟨rfl, rfl⟩ S0 hK hP (rest := []) rfl hl.1 (Nat.le_of_ble_eq_true rfl) ⟨(Nat.le_of_ble_eq_true rfl), (Nat.le_of_ble_eq_true rfl)⟩ ⟨Nat.zero_le _, Nat.zero_le _⟩ dX1_picks_160 (fun hex => ?_)
            refine cutG (fun ls H locs st => ∃ σ9 : St, σ9 = (if (f_X1_isRunnable T C τ_150 (nI i_150)) = 0 then τ_150 else (if ((τ_150.1 0 (ix (nI i_150))) / 2) = (nI j) then (sI τ_150 3 (ix (nI i_150)) (if (τ_150.1 8 (ix (τ_150.1 0 (ix (nI i_150))))) = (nI i_150) then 1 else 0)) else τ_150)) ∧ st = [] ∧ lv_has ls 5 [(3, .int (nI i_150)), (2, .int (f_X1_leader T C σ (nI j))), (0, .ref (q 0)), (1, .int (nI j))] ∧ PP 1 E q σ9 H ∧ va_S (Aq q) s.heap H locs ∧ Inv T C σ9) 204 (fun ls H locs st hKp => ?_) (fun K163 => ?_)
            · revert hKp
              refine ex_eq (fun hKp => ?_)
              obtain ⟨rfl, hl, hP, hS, hI⟩ := hKp
              refine lv_iinc (v := (nI (i_150 + 1))) (lv' := [(3, .int (nI (i_150 + 1))), (2, .int (f_X1_leader T C σ (nI j))), (0, .ref (q 0)), (1, .int (nI j))]) hx hb dX1_picks_204 hl (k := 0) rfl (nI_1 _) (by decide) rfl (fun ls hl => ?_)
              refine lv_goto (tgt := 150) hx hb dX1_picks_207 (by decide) ?_
              exact ih_150 (i_150 + 1) (if (f_X1_isRunnable T C τ_150 (nI i_150)) = 0 then τ_150 else (if ((τ_150.1 0 (ix (nI i_150))) / 2) = (nI j) then (sI τ_150 3 (ix (nI i_150)) (if (τ_150.1 8 (ix (τ_150.1 0 (ix (nI i_150))))) = (nI i_150) then 1 else 0)) else τ_150)) ls H locs (by omega) hres_150 (Eq.subst (motive := fun z => Inv T C z) (show (if (f_X1_isRunnable T C τ_150 (nI i_150)) = 0 then τ_150 else (if ((τ_150.1 0 (ix (nI i_150))) / 2) = (nI j) then (sI τ_150 3 (ix (nI i_150)) (if (τ_150.1 8 (ix (τ_150.1 0 (ix (nI i_150))))) = (nI i_150) then 1 else 0)) else τ_150)) = (if (f_X1_isRunnable T C τ_150 (nI i_150)) = 0 then τ_150 else (if ((τ_150.1 0 (ix (nI i_150))) / 2) = (nI j) then (sI τ_150 3 (ix (nI i_150)) (if (τ_150.1 8 (ix (τ_150.1 0 (ix (nI i_150))))) = (nI i_150) then 1 else 0)) else τ_150)) from rfl) hI) (lv_sub (l' := [(3, .int (nI (i_150 + 1))), (2, .int (f_X1_leader T C σ (nI j))), (0, .ref (q 0)), (1, .int (nI j))]) hl [0, 1, 2, 3] rfl) (Eq.subst (motive := fun z => PP 1 E q z H) (show (if (f_X1_isRunnable T C τ_150 (nI i_150)) = 0 then τ_150 else (if ((τ_150.1 0 (ix (nI i_150))) / 2) = (nI j) then (sI τ_150 3 (ix (nI i_150)) (if (τ_150.1 8 (ix (τ_150.1 0 (ix (nI i_150))))) = (nI i_150) then 1 else 0)) else τ_150)) = (if (f_X1_isRunnable T C τ_150 (nI i_150)) = 0 then τ_150 else (if ((τ_150.1 0 (ix (nI i_150))) / 2) = (nI j) then (sI τ_150 3 (ix (nI i_150)) (if (τ_150.1 8 (ix (τ_150.1 0 (ix (nI i_150))))) = (nI i_150) then 1 else 0)) else τ_150)) from rfl) hP) hS
            · refine lv_if_eq (tgt := 204) hx hb dX1_picks_163 (by decide) (fun h163 => ?_) (fun h163 => ?_)
              · skip
                exact K163 _ _ _ _ ⟨τ_150, (Eq.symm (if_pos h163)), rfl, lv_sub hl [0, 1, 2, 3] rfl, hP, hS, hI⟩
              · skip
                refine lv_aload_n hx hb dX1_picks_166 rfl (lv_at hl 2 rfl) ?_
                refine gf_X1_34 hx hb hts hown hK hP dX1_picks_167 ?_
                refine lv_iload_n hx hb dX1_picks_170 rfl (lv_at hl 0 rfl) ?_
                refine ld_0 hx hb hK hP (vp_in_nI (by omega) (by decide)) dX1_picks_171 ?_
                refine lv_iconst (v := 2) hx hb dX1_picks_172 (by decide) ?_
                refine lv_idiv hx hb dX1_picks_173 (by decide) ?_
                refine lv_iload_n hx hb dX1_picks_174 rfl (lv_at hl 3 rfl) ?_
                refine lv_icmp_ne (tgt := 204) hx hb dX1_picks_175 (by decide) (fun h175 => ?_) (fun h175 => ?_)
                · skip
                  exact K163 _ _ _ _ ⟨τ_150, (Eq.symm (Eq.trans (if_neg h163) (if_neg h175))), rfl, lv_sub hl [0, 1, 2, 3] rfl, hP, hS, hI⟩
                · skip
                  refine lv_aload_n hx hb dX1_picks_178 rfl (lv_at hl 2 rfl) ?_
                  refine gf_X1_43 hx hb hts hown hK hP dX1_picks_179 ?_
                  refine lv_iload_n hx hb dX1_picks_182 rfl (lv_at hl 0 rfl) ?_
                  refine lv_aload_n hx hb dX1_picks_183 rfl (lv_at hl 2 rfl) ?_
                  refine gf_X1_17 hx hb hts hown hK hP dX1_picks_184 ?_
                  refine lv_aload_n hx hb dX1_picks_187 rfl (lv_at hl 2 rfl) ?_
                  refine gf_X1_34 hx hb hts hown hK hP dX1_picks_188 ?_
                  refine lv_iload_n hx hb dX1_picks_191 rfl (lv_at hl 0 rfl) ?_
                  refine ld_0 hx hb hK hP (vp_in_nI (by omega) (by decide)) dX1_picks_192 ?_
                  refine ld_8 hx hb hK hP (hI.1 _) dX1_picks_193 ?_
                  refine lv_iload_n hx hb dX1_picks_194 rfl (lv_at hl 0 rfl) ?_
                  refine cutG (fun ls H locs st => ∃ y0 : Int32, y0 = (if (τ_150.1 8 (ix (τ_150.1 0 (ix (nI i_150))))) = (nI i_150) then 1 else 0) ∧ st = [.int y0, .int (nI i_150), .ref (q 4)] ∧ lv_has ls 5 [(3, .int (nI i_150)), (2, .int (f_X1_leader T C σ (nI j))), (0, .ref (q 0)), (1, .int (nI j))] ∧ PP 1 E q τ_150 H ∧ va_S (Aq q) s.heap H locs ∧ Inv T C τ_150) 203 (fun ls H locs st hKp => ?_) (fun K195 => ?_)
                  · revert hKp
                    refine ex_eq (fun hKp => ?_)
                    obtain ⟨rfl, hl, hP, hS, hI⟩ := hKp
                    refine st_3 hx hb hK hq hP hS (vp_in_nI (by omega) (by decide)) dX1_picks_203 (fun H locs hP hS => ?_)
                    have hI : Inv T C (sI τ_150 3 (ix (nI i_150)) (if (τ_150.1 8 (ix (τ_150.1 0 (ix (nI i_150))))) = (nI i_150) then 1 else 0)) := inv_sI (by decide) hI
                    exact K163 _ _ _ _ ⟨(sI τ_150 3 (ix (nI i_150)) (if (τ_150.1 8 (ix (τ_150.1 0 (ix (nI i_150))))) = (nI i_150) then 1 else 0)), (Eq.symm (Eq.trans (if_neg h163) (if_pos h175))), rfl, lv_sub hl [0, 1, 2, 3] rfl, hP, hS, hI⟩
                  · refine lv_icmp_ne (tgt := 202) hx hb dX1_picks_195 (by decide) (fun h195 => ?_) (fun h195 => ?_)
                    · skip
                      refine lv_iconst (v := 0) hx hb dX1_picks_202 (by decide) ?_
                      exact K195 _ _ _ _ ⟨0, (Eq.symm (if_neg h195)), rfl, lv_sub hl [0, 1, 2, 3] rfl, hP, hS, hI⟩
                    · skip
                      refine lv_iconst (v := 1) hx hb dX1_picks_198 (by decide) ?_
                      refine lv_goto (tgt := 203) hx hb dX1_picks_199 (by decide) ?_
                      exact K195 _ _ _ _ ⟨1, (Eq.symm (if_pos h195)), rfl, lv_sub hl [0, 1, 2, 3] rfl, hP, hS, hI⟩
        exact L_150 T 0 (lp (F_X1_picks_31 T C σ j) 2 (2 * j) (sI σ 12 (ix (nI j)) (if (f_X1_leader T C σ (nI j)) = (-1) then (-1) else (σ.1 2 (ix (f_X1_leader T C σ (nI j))))))) ls H locs (Nat.zero_add T) rfl hI (lv_sub hl [0, 1, 2, 3] rfl) hP hS
      | succ n_31 ih_31 =>
        intro i_31 τ_31 ls H locs hi_31 hres_31 hI hl hP hS
        refine lv_iload_n hx hb dX1_picks_31 rfl (lv_at hl 0 rfl) ?_
        refine lv_iconst (v := 2) hx hb dX1_picks_32 (by decide) ?_
        refine lv_iload_n hx hb dX1_picks_33 rfl (lv_at hl 3 rfl) ?_
        refine lv_imul hx hb dX1_picks_34 ?_
        rw [mul2 j]
        refine lv_iconst (v := 2) hx hb dX1_picks_35 (by decide) ?_
        refine lv_iadd hx hb dX1_picks_36 ?_
        refine lv_icmp_ge (tgt := 148) hx hb dX1_picks_37 (by decide) (fun h => absurd h (lp_in (nI_p2 (2 * j)) (by omega) hi_31)) (fun _ => ?_)
        refine lv_iload_n hx hb dX1_picks_40 rfl (lv_at hl 1 rfl) ?_
        refine lv_iconst (v := -1) hx hb dX1_picks_41 (by decide) ?_
        refine cutG (fun ls H locs st => ∃ y0 : Int32, y0 = (if (f_X1_leader T C σ (nI j)) = (-1) then (-1) else (f_X1_firstOf T C τ_31 (nI i_31) (τ_31.1 12 (ix (nI j))))) ∧ st = [.int y0] ∧ lv_has ls 5 [(3, .int (nI i_31)), (2, .int (f_X1_leader T C σ (nI j))), (0, .ref (q 0)), (1, .int (nI j))] ∧ PP 1 E q τ_31 H ∧ va_S (Aq q) s.heap H locs ∧ Inv T C τ_31 ∧ vo y0) 60 (fun ls H locs st hKp => ?_) (fun K42 => ?_)
        · revert hKp
          refine ex_eq (fun hKp => ?_)
          obtain ⟨rfl, hl, hP, hS, hI, hv42_y0⟩ := hKp
          refine lv_istore (lv' := [(4, .int (if (f_X1_leader T C σ (nI j)) = (-1) then (-1) else (f_X1_firstOf T C τ_31 (nI i_31) (τ_31.1 12 (ix (nI j)))))), (3, .int (nI i_31)), (2, .int (f_X1_leader T C σ (nI j))), (0, .ref (q 0)), (1, .int (nI j))]) hx hb dX1_picks_60 hl (by decide) rfl (fun ls hl => ?_)
          refine lv_iload hx hb dX1_picks_62 (lv_at hl 0 rfl) ?_
          refine lv_iconst (v := -1) hx hb dX1_picks_64 (by decide) ?_
          refine cutG (fun ls H locs st => ∃ x4 : Int32, x4 = (if ((if (f_X1_leader T C σ (nI j)) = (-1) then (-1) else (f_X1_firstOf T C τ_31 (nI i_31) (τ_31.1 12 (ix (nI j))))) : Int32) = (-1) then (if (f_X1_leader T C σ (nI j)) = (-1) then (if (f_X1_leader T C σ (nI j)) = (-1) then (-1) else (f_X1_firstOf T C τ_31 (nI i_31) (τ_31.1 12 (ix (nI j))))) else (f_X1_toSteal T C τ_31 (nI j) (τ_31.1 12 (ix (nI j))))) else (if (f_X1_leader T C σ (nI j)) = (-1) then (-1) else (f_X1_firstOf T C τ_31 (nI i_31) (τ_31.1 12 (ix (nI j)))))) ∧ ∃ σ9 : St, σ9 = (if ((if (f_X1_leader T C σ (nI j)) = (-1) then (-1) else (f_X1_firstOf T C τ_31 (nI i_31) (τ_31.1 12 (ix (nI j))))) : Int32) = (-1) then (if (f_X1_leader T C σ (nI j)) = (-1) then τ_31 else (if (f_X1_toSteal T C τ_31 (nI j) (τ_31.1 12 (ix (nI j)))) = (-1) then τ_31 else (sS (g_X1_goesTo T C τ_31 (f_X1_toSteal T C τ_31 (nI j) (τ_31.1 12 (ix (nI j)))) (nI i_31)) 15 (((g_X1_goesTo T C τ_31 (f_X1_toSteal T C τ_31 (nI j) (τ_31.1 12 (ix (nI j)))) (nI i_31)).2.2 15) + 1)))) else τ_31) ∧ st = [] ∧ lv_has ls 5 [(4, .int x4), (3, .int (nI i_31)), (2, .int (f_X1_leader T C σ (nI j))), (0, .ref (q 0)), (1, .int (nI j))] ∧ PP 1 E q σ9 H ∧ va_S (Aq q) s.heap H locs ∧ Inv T C σ9 ∧ vo x4) 109 (fun ls H locs st hKp => ?_) (fun K65 => ?_)
          · revert hKp
            refine ex_eq (fun hKp => ?_)
            revert hKp; refine ex_eq (fun hKp => ?_)
            obtain ⟨rfl, hl, hP, hS, hI, hv65_x4⟩ := hKp
            refine lv_aload_n hx hb dX1_picks_109 rfl (lv_at hl 3 rfl) ?_
            refine gf_X1_17 hx hb hts hown hK hP dX1_picks_110 ?_
            refine lv_iload_n hx hb dX1_picks_113 rfl (lv_at hl 1 rfl) ?_
            refine lv_iload hx hb dX1_picks_114 (lv_at hl 0 rfl) ?_
            refine st_8 hx hb hK hq hP hS (vp_in_nI (by omega) (by decide)) dX1_picks_116 (fun H locs hP hS => ?_)
            have hI : Inv T C (sI (if ((if (f_X1_leader T C σ (nI j)) = (-1) then (-1) else (f_X1_firstOf T C τ_31 (nI i_31) (τ_31.1 12 (ix (nI j))))) : Int32) = (-1) then (if (f_X1_leader T C σ (nI j)) = (-1) then τ_31 else (if (f_X1_toSteal T C τ_31 (nI j) (τ_31.1 12 (ix (nI j)))) = (-1) then τ_31 else (sS (g_X1_goesTo T C τ_31 (f_X1_toSteal T C τ_31 (nI j) (τ_31.1 12 (ix (nI j)))) (nI i_31)) 15 (((g_X1_goesTo T C τ_31 (f_X1_toSteal T C τ_31 (nI j) (τ_31.1 12 (ix (nI j)))) (nI i_31)).2.2 15) + 1)))) else τ_31) 8 (ix (nI i_31)) (if ((if (f_X1_leader T C σ (nI j)) = (-1) then (-1) else (f_X1_firstOf T C τ_31 (nI i_31) (τ_31.1 12 (ix (nI j))))) : Int32) = (-1) then (if (f_X1_leader T C σ (nI j)) = (-1) then (if (f_X1_leader T C σ (nI j)) = (-1) then (-1) else (f_X1_firstOf T C τ_31 (nI i_31) (τ_31.1 12 (ix (nI j))))) else (f_X1_toSteal T C τ_31 (nI j) (τ_31.1 12 (ix (nI j))))) else (if (f_X1_leader T C σ (nI j)) = (-1) then (-1) else (f_X1_firstOf T C τ_31 (nI i_31) (τ_31.1 12 (ix (nI j))))))) := inv_sI (by decide) hI
            refine lv_aload_n hx hb dX1_picks_117 rfl (lv_at hl 3 rfl) ?_
            refine gf_X1_21 hx hb hts hown hK hP dX1_picks_118 ?_
            refine lv_iload_n hx hb dX1_picks_121 rfl (lv_at hl 1 rfl) ?_
            refine lv_iload hx hb dX1_picks_122 (lv_at hl 0 rfl) ?_
            refine lv_iconst (v := -1) hx hb dX1_picks_124 (by decide) ?_
            refine cutG (fun ls H locs st => ∃ y0 : Int32, y0 = (if ((if ((if (f_X1_leader T C σ (nI j)) = (-1) then (-1) else (f_X1_firstOf T C τ_31 (nI i_31) (τ_31.1 12 (ix (nI j))))) : Int32) = (-1) then (if (f_X1_leader T C σ (nI j)) = (-1) then (if (f_X1_leader T C σ (nI j)) = (-1) then (-1) else (f_X1_firstOf T C τ_31 (nI i_31) (τ_31.1 12 (ix (nI j))))) else (f_X1_toSteal T C τ_31 (nI j) (τ_31.1 12 (ix (nI j))))) else (if (f_X1_leader T C σ (nI j)) = (-1) then (-1) else (f_X1_firstOf T C τ_31 (nI i_31) (τ_31.1 12 (ix (nI j)))))) : Int32) = (-1) then (if (f_X1_queued T C (sI (if ((if (f_X1_leader T C σ (nI j)) = (-1) then (-1) else (f_X1_firstOf T C τ_31 (nI i_31) (τ_31.1 12 (ix (nI j))))) : Int32) = (-1) then (if (f_X1_leader T C σ (nI j)) = (-1) then τ_31 else (if (f_X1_toSteal T C τ_31 (nI j) (τ_31.1 12 (ix (nI j)))) = (-1) then τ_31 else (sS (g_X1_goesTo T C τ_31 (f_X1_toSteal T C τ_31 (nI j) (τ_31.1 12 (ix (nI j)))) (nI i_31)) 15 (((g_X1_goesTo T C τ_31 (f_X1_toSteal T C τ_31 (nI j) (τ_31.1 12 (ix (nI j)))) (nI i_31)).2.2 15) + 1)))) else τ_31) 8 (ix (nI i_31)) (if ((if (f_X1_leader T C σ (nI j)) = (-1) then (-1) else (f_X1_firstOf T C τ_31 (nI i_31) (τ_31.1 12 (ix (nI j))))) : Int32) = (-1) then (if (f_X1_leader T C σ (nI j)) = (-1) then (if (f_X1_leader T C σ (nI j)) = (-1) then (-1) else (f_X1_firstOf T C τ_31 (nI i_31) (τ_31.1 12 (ix (nI j))))) else (f_X1_toSteal T C τ_31 (nI j) (τ_31.1 12 (ix (nI j))))) else (if (f_X1_leader T C σ (nI j)) = (-1) then (-1) else (f_X1_firstOf T C τ_31 (nI i_31) (τ_31.1 12 (ix (nI j))))))) (nI i_31)) ≤ 0 then 0 else 1) else 0) ∧ st = [.int y0, .int (nI i_31), .ref (q 10)] ∧ lv_has ls 5 [(4, .int (if ((if (f_X1_leader T C σ (nI j)) = (-1) then (-1) else (f_X1_firstOf T C τ_31 (nI i_31) (τ_31.1 12 (ix (nI j))))) : Int32) = (-1) then (if (f_X1_leader T C σ (nI j)) = (-1) then (if (f_X1_leader T C σ (nI j)) = (-1) then (-1) else (f_X1_firstOf T C τ_31 (nI i_31) (τ_31.1 12 (ix (nI j))))) else (f_X1_toSteal T C τ_31 (nI j) (τ_31.1 12 (ix (nI j))))) else (if (f_X1_leader T C σ (nI j)) = (-1) then (-1) else (f_X1_firstOf T C τ_31 (nI i_31) (τ_31.1 12 (ix (nI j))))))), (3, .int (nI i_31)), (2, .int (f_X1_leader T C σ (nI j))), (0, .ref (q 0)), (1, .int (nI j))] ∧ PP 1 E q (sI (if ((if (f_X1_leader T C σ (nI j)) = (-1) then (-1) else (f_X1_firstOf T C τ_31 (nI i_31) (τ_31.1 12 (ix (nI j))))) : Int32) = (-1) then (if (f_X1_leader T C σ (nI j)) = (-1) then τ_31 else (if (f_X1_toSteal T C τ_31 (nI j) (τ_31.1 12 (ix (nI j)))) = (-1) then τ_31 else (sS (g_X1_goesTo T C τ_31 (f_X1_toSteal T C τ_31 (nI j) (τ_31.1 12 (ix (nI j)))) (nI i_31)) 15 (((g_X1_goesTo T C τ_31 (f_X1_toSteal T C τ_31 (nI j) (τ_31.1 12 (ix (nI j)))) (nI i_31)).2.2 15) + 1)))) else τ_31) 8 (ix (nI i_31)) (if ((if (f_X1_leader T C σ (nI j)) = (-1) then (-1) else (f_X1_firstOf T C τ_31 (nI i_31) (τ_31.1 12 (ix (nI j))))) : Int32) = (-1) then (if (f_X1_leader T C σ (nI j)) = (-1) then (if (f_X1_leader T C σ (nI j)) = (-1) then (-1) else (f_X1_firstOf T C τ_31 (nI i_31) (τ_31.1 12 (ix (nI j))))) else (f_X1_toSteal T C τ_31 (nI j) (τ_31.1 12 (ix (nI j))))) else (if (f_X1_leader T C σ (nI j)) = (-1) then (-1) else (f_X1_firstOf T C τ_31 (nI i_31) (τ_31.1 12 (ix (nI j))))))) H ∧ va_S (Aq q) s.heap H locs ∧ Inv T C (sI (if ((if (f_X1_leader T C σ (nI j)) = (-1) then (-1) else (f_X1_firstOf T C τ_31 (nI i_31) (τ_31.1 12 (ix (nI j))))) : Int32) = (-1) then (if (f_X1_leader T C σ (nI j)) = (-1) then τ_31 else (if (f_X1_toSteal T C τ_31 (nI j) (τ_31.1 12 (ix (nI j)))) = (-1) then τ_31 else (sS (g_X1_goesTo T C τ_31 (f_X1_toSteal T C τ_31 (nI j) (τ_31.1 12 (ix (nI j)))) (nI i_31)) 15 (((g_X1_goesTo T C τ_31 (f_X1_toSteal T C τ_31 (nI j) (τ_31.1 12 (ix (nI j)))) (nI i_31)).2.2 15) + 1)))) else τ_31) 8 (ix (nI i_31)) (if ((if (f_X1_leader T C σ (nI j)) = (-1) then (-1) else (f_X1_firstOf T C τ_31 (nI i_31) (τ_31.1 12 (ix (nI j))))) : Int32) = (-1) then (if (f_X1_leader T C σ (nI j)) = (-1) then (if (f_X1_leader T C σ (nI j)) = (-1) then (-1) else (f_X1_firstOf T C τ_31 (nI i_31) (τ_31.1 12 (ix (nI j))))) else (f_X1_toSteal T C τ_31 (nI j) (τ_31.1 12 (ix (nI j))))) else (if (f_X1_leader T C σ (nI j)) = (-1) then (-1) else (f_X1_firstOf T C τ_31 (nI i_31) (τ_31.1 12 (ix (nI j)))))))) 141 (fun ls H locs st hKp => ?_) (fun K125 => ?_)
            · revert hKp
              refine ex_eq (fun hKp => ?_)
              obtain ⟨rfl, hl, hP, hS, hI⟩ := hKp
              refine st_9 hx hb hK hq hP hS (vp_in_nI (by omega) (by decide)) dX1_picks_141 (fun H locs hP hS => ?_)
              have hI : Inv T C (sI (sI (if ((if (f_X1_leader T C σ (nI j)) = (-1) then (-1) else (f_X1_firstOf T C τ_31 (nI i_31) (τ_31.1 12 (ix (nI j))))) : Int32) = (-1) then (if (f_X1_leader T C σ (nI j)) = (-1) then τ_31 else (if (f_X1_toSteal T C τ_31 (nI j) (τ_31.1 12 (ix (nI j)))) = (-1) then τ_31 else (sS (g_X1_goesTo T C τ_31 (f_X1_toSteal T C τ_31 (nI j) (τ_31.1 12 (ix (nI j)))) (nI i_31)) 15 (((g_X1_goesTo T C τ_31 (f_X1_toSteal T C τ_31 (nI j) (τ_31.1 12 (ix (nI j)))) (nI i_31)).2.2 15) + 1)))) else τ_31) 8 (ix (nI i_31)) (if ((if (f_X1_leader T C σ (nI j)) = (-1) then (-1) else (f_X1_firstOf T C τ_31 (nI i_31) (τ_31.1 12 (ix (nI j))))) : Int32) = (-1) then (if (f_X1_leader T C σ (nI j)) = (-1) then (if (f_X1_leader T C σ (nI j)) = (-1) then (-1) else (f_X1_firstOf T C τ_31 (nI i_31) (τ_31.1 12 (ix (nI j))))) else (f_X1_toSteal T C τ_31 (nI j) (τ_31.1 12 (ix (nI j))))) else (if (f_X1_leader T C σ (nI j)) = (-1) then (-1) else (f_X1_firstOf T C τ_31 (nI i_31) (τ_31.1 12 (ix (nI j))))))) 9 (ix (nI i_31)) (vp_nar .boolean (if ((if ((if (f_X1_leader T C σ (nI j)) = (-1) then (-1) else (f_X1_firstOf T C τ_31 (nI i_31) (τ_31.1 12 (ix (nI j))))) : Int32) = (-1) then (if (f_X1_leader T C σ (nI j)) = (-1) then (if (f_X1_leader T C σ (nI j)) = (-1) then (-1) else (f_X1_firstOf T C τ_31 (nI i_31) (τ_31.1 12 (ix (nI j))))) else (f_X1_toSteal T C τ_31 (nI j) (τ_31.1 12 (ix (nI j))))) else (if (f_X1_leader T C σ (nI j)) = (-1) then (-1) else (f_X1_firstOf T C τ_31 (nI i_31) (τ_31.1 12 (ix (nI j)))))) : Int32) = (-1) then (if (f_X1_queued T C (sI (if ((if (f_X1_leader T C σ (nI j)) = (-1) then (-1) else (f_X1_firstOf T C τ_31 (nI i_31) (τ_31.1 12 (ix (nI j))))) : Int32) = (-1) then (if (f_X1_leader T C σ (nI j)) = (-1) then τ_31 else (if (f_X1_toSteal T C τ_31 (nI j) (τ_31.1 12 (ix (nI j)))) = (-1) then τ_31 else (sS (g_X1_goesTo T C τ_31 (f_X1_toSteal T C τ_31 (nI j) (τ_31.1 12 (ix (nI j)))) (nI i_31)) 15 (((g_X1_goesTo T C τ_31 (f_X1_toSteal T C τ_31 (nI j) (τ_31.1 12 (ix (nI j)))) (nI i_31)).2.2 15) + 1)))) else τ_31) 8 (ix (nI i_31)) (if ((if (f_X1_leader T C σ (nI j)) = (-1) then (-1) else (f_X1_firstOf T C τ_31 (nI i_31) (τ_31.1 12 (ix (nI j))))) : Int32) = (-1) then (if (f_X1_leader T C σ (nI j)) = (-1) then (if (f_X1_leader T C σ (nI j)) = (-1) then (-1) else (f_X1_firstOf T C τ_31 (nI i_31) (τ_31.1 12 (ix (nI j))))) else (f_X1_toSteal T C τ_31 (nI j) (τ_31.1 12 (ix (nI j))))) else (if (f_X1_leader T C σ (nI j)) = (-1) then (-1) else (f_X1_firstOf T C τ_31 (nI i_31) (τ_31.1 12 (ix (nI j))))))) (nI i_31)) ≤ 0 then 0 else 1) else 0))) := inv_sI (by decide) hI
              refine lv_iinc (v := (nI (i_31 + 1))) (lv' := [(3, .int (nI (i_31 + 1))), (4, .int (if ((if (f_X1_leader T C σ (nI j)) = (-1) then (-1) else (f_X1_firstOf T C τ_31 (nI i_31) (τ_31.1 12 (ix (nI j))))) : Int32) = (-1) then (if (f_X1_leader T C σ (nI j)) = (-1) then (if (f_X1_leader T C σ (nI j)) = (-1) then (-1) else (f_X1_firstOf T C τ_31 (nI i_31) (τ_31.1 12 (ix (nI j))))) else (f_X1_toSteal T C τ_31 (nI j) (τ_31.1 12 (ix (nI j))))) else (if (f_X1_leader T C σ (nI j)) = (-1) then (-1) else (f_X1_firstOf T C τ_31 (nI i_31) (τ_31.1 12 (ix (nI j))))))), (2, .int (f_X1_leader T C σ (nI j))), (0, .ref (q 0)), (1, .int (nI j))]) hx hb dX1_picks_142 hl (k := 1) rfl (nI_1 _) (by decide) rfl (fun ls hl => ?_)
              refine lv_goto (tgt := 31) hx hb dX1_picks_145 (by decide) ?_
              exact ih_31 (i_31 + 1) (sI (sI (if ((if (f_X1_leader T C σ (nI j)) = (-1) then (-1) else (f_X1_firstOf T C τ_31 (nI i_31) (τ_31.1 12 (ix (nI j))))) : Int32) = (-1) then (if (f_X1_leader T C σ (nI j)) = (-1) then τ_31 else (if (f_X1_toSteal T C τ_31 (nI j) (τ_31.1 12 (ix (nI j)))) = (-1) then τ_31 else (sS (g_X1_goesTo T C τ_31 (f_X1_toSteal T C τ_31 (nI j) (τ_31.1 12 (ix (nI j)))) (nI i_31)) 15 (((g_X1_goesTo T C τ_31 (f_X1_toSteal T C τ_31 (nI j) (τ_31.1 12 (ix (nI j)))) (nI i_31)).2.2 15) + 1)))) else τ_31) 8 (ix (nI i_31)) (if ((if (f_X1_leader T C σ (nI j)) = (-1) then (-1) else (f_X1_firstOf T C τ_31 (nI i_31) (τ_31.1 12 (ix (nI j))))) : Int32) = (-1) then (if (f_X1_leader T C σ (nI j)) = (-1) then (if (f_X1_leader T C σ (nI j)) = (-1) then (-1) else (f_X1_firstOf T C τ_31 (nI i_31) (τ_31.1 12 (ix (nI j))))) else (f_X1_toSteal T C τ_31 (nI j) (τ_31.1 12 (ix (nI j))))) else (if (f_X1_leader T C σ (nI j)) = (-1) then (-1) else (f_X1_firstOf T C τ_31 (nI i_31) (τ_31.1 12 (ix (nI j))))))) 9 (ix (nI i_31)) (vp_nar .boolean (if ((if ((if (f_X1_leader T C σ (nI j)) = (-1) then (-1) else (f_X1_firstOf T C τ_31 (nI i_31) (τ_31.1 12 (ix (nI j))))) : Int32) = (-1) then (if (f_X1_leader T C σ (nI j)) = (-1) then (if (f_X1_leader T C σ (nI j)) = (-1) then (-1) else (f_X1_firstOf T C τ_31 (nI i_31) (τ_31.1 12 (ix (nI j))))) else (f_X1_toSteal T C τ_31 (nI j) (τ_31.1 12 (ix (nI j))))) else (if (f_X1_leader T C σ (nI j)) = (-1) then (-1) else (f_X1_firstOf T C τ_31 (nI i_31) (τ_31.1 12 (ix (nI j)))))) : Int32) = (-1) then (if (f_X1_queued T C (sI (if ((if (f_X1_leader T C σ (nI j)) = (-1) then (-1) else (f_X1_firstOf T C τ_31 (nI i_31) (τ_31.1 12 (ix (nI j))))) : Int32) = (-1) then (if (f_X1_leader T C σ (nI j)) = (-1) then τ_31 else (if (f_X1_toSteal T C τ_31 (nI j) (τ_31.1 12 (ix (nI j)))) = (-1) then τ_31 else (sS (g_X1_goesTo T C τ_31 (f_X1_toSteal T C τ_31 (nI j) (τ_31.1 12 (ix (nI j)))) (nI i_31)) 15 (((g_X1_goesTo T C τ_31 (f_X1_toSteal T C τ_31 (nI j) (τ_31.1 12 (ix (nI j)))) (nI i_31)).2.2 15) + 1)))) else τ_31) 8 (ix (nI i_31)) (if ((if (f_X1_leader T C σ (nI j)) = (-1) then (-1) else (f_X1_firstOf T C τ_31 (nI i_31) (τ_31.1 12 (ix (nI j))))) : Int32) = (-1) then (if (f_X1_leader T C σ (nI j)) = (-1) then (if (f_X1_leader T C σ (nI j)) = (-1) then (-1) else (f_X1_firstOf T C τ_31 (nI i_31) (τ_31.1 12 (ix (nI j))))) else (f_X1_toSteal T C τ_31 (nI j) (τ_31.1 12 (ix (nI j))))) else (if (f_X1_leader T C σ (nI j)) = (-1) then (-1) else (f_X1_firstOf T C τ_31 (nI i_31) (τ_31.1 12 (ix (nI j))))))) (nI i_31)) ≤ 0 then 0 else 1) else 0))) ls H locs (by omega) hres_31 (Eq.subst (motive := fun z => Inv T C z) (show (sI (sI (if ((if (f_X1_leader T C σ (nI j)) = (-1) then (-1) else (f_X1_firstOf T C τ_31 (nI i_31) (τ_31.1 12 (ix (nI j))))) : Int32) = (-1) then (if (f_X1_leader T C σ (nI j)) = (-1) then τ_31 else (if (f_X1_toSteal T C τ_31 (nI j) (τ_31.1 12 (ix (nI j)))) = (-1) then τ_31 else (sS (g_X1_goesTo T C τ_31 (f_X1_toSteal T C τ_31 (nI j) (τ_31.1 12 (ix (nI j)))) (nI i_31)) 15 (((g_X1_goesTo T C τ_31 (f_X1_toSteal T C τ_31 (nI j) (τ_31.1 12 (ix (nI j)))) (nI i_31)).2.2 15) + 1)))) else τ_31) 8 (ix (nI i_31)) (if ((if (f_X1_leader T C σ (nI j)) = (-1) then (-1) else (f_X1_firstOf T C τ_31 (nI i_31) (τ_31.1 12 (ix (nI j))))) : Int32) = (-1) then (if (f_X1_leader T C σ (nI j)) = (-1) then (if (f_X1_leader T C σ (nI j)) = (-1) then (-1) else (f_X1_firstOf T C τ_31 (nI i_31) (τ_31.1 12 (ix (nI j))))) else (f_X1_toSteal T C τ_31 (nI j) (τ_31.1 12 (ix (nI j))))) else (if (f_X1_leader T C σ (nI j)) = (-1) then (-1) else (f_X1_firstOf T C τ_31 (nI i_31) (τ_31.1 12 (ix (nI j))))))) 9 (ix (nI i_31)) (vp_nar .boolean (if ((if ((if (f_X1_leader T C σ (nI j)) = (-1) then (-1) else (f_X1_firstOf T C τ_31 (nI i_31) (τ_31.1 12 (ix (nI j))))) : Int32) = (-1) then (if (f_X1_leader T C σ (nI j)) = (-1) then (if (f_X1_leader T C σ (nI j)) = (-1) then (-1) else (f_X1_firstOf T C τ_31 (nI i_31) (τ_31.1 12 (ix (nI j))))) else (f_X1_toSteal T C τ_31 (nI j) (τ_31.1 12 (ix (nI j))))) else (if (f_X1_leader T C σ (nI j)) = (-1) then (-1) else (f_X1_firstOf T C τ_31 (nI i_31) (τ_31.1 12 (ix (nI j)))))) : Int32) = (-1) then (if (f_X1_queued T C (sI (if ((if (f_X1_leader T C σ (nI j)) = (-1) then (-1) else (f_X1_firstOf T C τ_31 (nI i_31) (τ_31.1 12 (ix (nI j))))) : Int32) = (-1) then (if (f_X1_leader T C σ (nI j)) = (-1) then τ_31 else (if (f_X1_toSteal T C τ_31 (nI j) (τ_31.1 12 (ix (nI j)))) = (-1) then τ_31 else (sS (g_X1_goesTo T C τ_31 (f_X1_toSteal T C τ_31 (nI j) (τ_31.1 12 (ix (nI j)))) (nI i_31)) 15 (((g_X1_goesTo T C τ_31 (f_X1_toSteal T C τ_31 (nI j) (τ_31.1 12 (ix (nI j)))) (nI i_31)).2.2 15) + 1)))) else τ_31) 8 (ix (nI i_31)) (if ((if (f_X1_leader T C σ (nI j)) = (-1) then (-1) else (f_X1_firstOf T C τ_31 (nI i_31) (τ_31.1 12 (ix (nI j))))) : Int32) = (-1) then (if (f_X1_leader T C σ (nI j)) = (-1) then (if (f_X1_leader T C σ (nI j)) = (-1) then (-1) else (f_X1_firstOf T C τ_31 (nI i_31) (τ_31.1 12 (ix (nI j))))) else (f_X1_toSteal T C τ_31 (nI j) (τ_31.1 12 (ix (nI j))))) else (if (f_X1_leader T C σ (nI j)) = (-1) then (-1) else (f_X1_firstOf T C τ_31 (nI i_31) (τ_31.1 12 (ix (nI j))))))) (nI i_31)) ≤ 0 then 0 else 1) else 0))) = (sI (sI (if ((if (f_X1_leader T C σ (nI j)) = (-1) then (-1) else (f_X1_firstOf T C τ_31 (nI i_31) (τ_31.1 12 (ix (nI j))))) : Int32) = (-1) then (if (f_X1_leader T C σ (nI j)) = (-1) then τ_31 else (if (f_X1_toSteal T C τ_31 (nI j) (τ_31.1 12 (ix (nI j)))) = (-1) then τ_31 else (sS (g_X1_goesTo T C τ_31 (f_X1_toSteal T C τ_31 (nI j) (τ_31.1 12 (ix (nI j)))) (nI i_31)) 15 (((g_X1_goesTo T C τ_31 (f_X1_toSteal T C τ_31 (nI j) (τ_31.1 12 (ix (nI j)))) (nI i_31)).2.2 15) + 1)))) else τ_31) 8 (ix (nI i_31)) (if ((if (f_X1_leader T C σ (nI j)) = (-1) then (-1) else (f_X1_firstOf T C τ_31 (nI i_31) (τ_31.1 12 (ix (nI j))))) : Int32) = (-1) then (if (f_X1_leader T C σ (nI j)) = (-1) then (if (f_X1_leader T C σ (nI j)) = (-1) then (-1) else (f_X1_firstOf T C τ_31 (nI i_31) (τ_31.1 12 (ix (nI j))))) else (f_X1_toSteal T C τ_31 (nI j) (τ_31.1 12 (ix (nI j))))) else (if (f_X1_leader T C σ (nI j)) = (-1) then (-1) else (f_X1_firstOf T C τ_31 (nI i_31) (τ_31.1 12 (ix (nI j))))))) 9 (ix (nI i_31)) (vp_nar .boolean (if ((if ((if (f_X1_leader T C σ (nI j)) = (-1) then (-1) else (f_X1_firstOf T C τ_31 (nI i_31) (τ_31.1 12 (ix (nI j))))) : Int32) = (-1) then (if (f_X1_leader T C σ (nI j)) = (-1) then (if (f_X1_leader T C σ (nI j)) = (-1) then (-1) else (f_X1_firstOf T C τ_31 (nI i_31) (τ_31.1 12 (ix (nI j))))) else (f_X1_toSteal T C τ_31 (nI j) (τ_31.1 12 (ix (nI j))))) else (if (f_X1_leader T C σ (nI j)) = (-1) then (-1) else (f_X1_firstOf T C τ_31 (nI i_31) (τ_31.1 12 (ix (nI j)))))) : Int32) = (-1) then (if (f_X1_queued T C (sI (if ((if (f_X1_leader T C σ (nI j)) = (-1) then (-1) else (f_X1_firstOf T C τ_31 (nI i_31) (τ_31.1 12 (ix (nI j))))) : Int32) = (-1) then (if (f_X1_leader T C σ (nI j)) = (-1) then τ_31 else (if (f_X1_toSteal T C τ_31 (nI j) (τ_31.1 12 (ix (nI j)))) = (-1) then τ_31 else (sS (g_X1_goesTo T C τ_31 (f_X1_toSteal T C τ_31 (nI j) (τ_31.1 12 (ix (nI j)))) (nI i_31)) 15 (((g_X1_goesTo T C τ_31 (f_X1_toSteal T C τ_31 (nI j) (τ_31.1 12 (ix (nI j)))) (nI i_31)).2.2 15) + 1)))) else τ_31) 8 (ix (nI i_31)) (if ((if (f_X1_leader T C σ (nI j)) = (-1) then (-1) else (f_X1_firstOf T C τ_31 (nI i_31) (τ_31.1 12 (ix (nI j))))) : Int32) = (-1) then (if (f_X1_leader T C σ (nI j)) = (-1) then (if (f_X1_leader T C σ (nI j)) = (-1) then (-1) else (f_X1_firstOf T C τ_31 (nI i_31) (τ_31.1 12 (ix (nI j))))) else (f_X1_toSteal T C τ_31 (nI j) (τ_31.1 12 (ix (nI j))))) else (if (f_X1_leader T C σ (nI j)) = (-1) then (-1) else (f_X1_firstOf T C τ_31 (nI i_31) (τ_31.1 12 (ix (nI j))))))) (nI i_31)) ≤ 0 then 0 else 1) else 0))) from rfl) hI) (lv_sub (l' := [(3, .int (nI (i_31 + 1))), (2, .int (f_X1_leader T C σ (nI j))), (0, .ref (q 0)), (1, .int (nI j))]) hl [0, 2, 3, 4] rfl) (Eq.subst (motive := fun z => PP 1 E q z H) (show (sI (sI (if ((if (f_X1_leader T C σ (nI j)) = (-1) then (-1) else (f_X1_firstOf T C τ_31 (nI i_31) (τ_31.1 12 (ix (nI j))))) : Int32) = (-1) then (if (f_X1_leader T C σ (nI j)) = (-1) then τ_31 else (if (f_X1_toSteal T C τ_31 (nI j) (τ_31.1 12 (ix (nI j)))) = (-1) then τ_31 else (sS (g_X1_goesTo T C τ_31 (f_X1_toSteal T C τ_31 (nI j) (τ_31.1 12 (ix (nI j)))) (nI i_31)) 15 (((g_X1_goesTo T C τ_31 (f_X1_toSteal T C τ_31 (nI j) (τ_31.1 12 (ix (nI j)))) (nI i_31)).2.2 15) + 1)))) else τ_31) 8 (ix (nI i_31)) (if ((if (f_X1_leader T C σ (nI j)) = (-1) then (-1) else (f_X1_firstOf T C τ_31 (nI i_31) (τ_31.1 12 (ix (nI j))))) : Int32) = (-1) then (if (f_X1_leader T C σ (nI j)) = (-1) then (if (f_X1_leader T C σ (nI j)) = (-1) then (-1) else (f_X1_firstOf T C τ_31 (nI i_31) (τ_31.1 12 (ix (nI j))))) else (f_X1_toSteal T C τ_31 (nI j) (τ_31.1 12 (ix (nI j))))) else (if (f_X1_leader T C σ (nI j)) = (-1) then (-1) else (f_X1_firstOf T C τ_31 (nI i_31) (τ_31.1 12 (ix (nI j))))))) 9 (ix (nI i_31)) (vp_nar .boolean (if ((if ((if (f_X1_leader T C σ (nI j)) = (-1) then (-1) else (f_X1_firstOf T C τ_31 (nI i_31) (τ_31.1 12 (ix (nI j))))) : Int32) = (-1) then (if (f_X1_leader T C σ (nI j)) = (-1) then (if (f_X1_leader T C σ (nI j)) = (-1) then (-1) else (f_X1_firstOf T C τ_31 (nI i_31) (τ_31.1 12 (ix (nI j))))) else (f_X1_toSteal T C τ_31 (nI j) (τ_31.1 12 (ix (nI j))))) else (if (f_X1_leader T C σ (nI j)) = (-1) then (-1) else (f_X1_firstOf T C τ_31 (nI i_31) (τ_31.1 12 (ix (nI j)))))) : Int32) = (-1) then (if (f_X1_queued T C (sI (if ((if (f_X1_leader T C σ (nI j)) = (-1) then (-1) else (f_X1_firstOf T C τ_31 (nI i_31) (τ_31.1 12 (ix (nI j))))) : Int32) = (-1) then (if (f_X1_leader T C σ (nI j)) = (-1) then τ_31 else (if (f_X1_toSteal T C τ_31 (nI j) (τ_31.1 12 (ix (nI j)))) = (-1) then τ_31 else (sS (g_X1_goesTo T C τ_31 (f_X1_toSteal T C τ_31 (nI j) (τ_31.1 12 (ix (nI j)))) (nI i_31)) 15 (((g_X1_goesTo T C τ_31 (f_X1_toSteal T C τ_31 (nI j) (τ_31.1 12 (ix (nI j)))) (nI i_31)).2.2 15) + 1)))) else τ_31) 8 (ix (nI i_31)) (if ((if (f_X1_leader T C σ (nI j)) = (-1) then (-1) else (f_X1_firstOf T C τ_31 (nI i_31) (τ_31.1 12 (ix (nI j))))) : Int32) = (-1) then (if (f_X1_leader T C σ (nI j)) = (-1) then (if (f_X1_leader T C σ (nI j)) = (-1) then (-1) else (f_X1_firstOf T C τ_31 (nI i_31) (τ_31.1 12 (ix (nI j))))) else (f_X1_toSteal T C τ_31 (nI j) (τ_31.1 12 (ix (nI j))))) else (if (f_X1_leader T C σ (nI j)) = (-1) then (-1) else (f_X1_firstOf T C τ_31 (nI i_31) (τ_31.1 12 (ix (nI j))))))) (nI i_31)) ≤ 0 then 0 else 1) else 0))) = (sI (sI (if ((if (f_X1_leader T C σ (nI j)) = (-1) then (-1) else (f_X1_firstOf T C τ_31 (nI i_31) (τ_31.1 12 (ix (nI j))))) : Int32) = (-1) then (if (f_X1_leader T C σ (nI j)) = (-1) then τ_31 else (if (f_X1_toSteal T C τ_31 (nI j) (τ_31.1 12 (ix (nI j)))) = (-1) then τ_31 else (sS (g_X1_goesTo T C τ_31 (f_X1_toSteal T C τ_31 (nI j) (τ_31.1 12 (ix (nI j)))) (nI i_31)) 15 (((g_X1_goesTo T C τ_31 (f_X1_toSteal T C τ_31 (nI j) (τ_31.1 12 (ix (nI j)))) (nI i_31)).2.2 15) + 1)))) else τ_31) 8 (ix (nI i_31)) (if ((if (f_X1_leader T C σ (nI j)) = (-1) then (-1) else (f_X1_firstOf T C τ_31 (nI i_31) (τ_31.1 12 (ix (nI j))))) : Int32) = (-1) then (if (f_X1_leader T C σ (nI j)) = (-1) then (if (f_X1_leader T C σ (nI j)) = (-1) then (-1) else (f_X1_firstOf T C τ_31 (nI i_31) (τ_31.1 12 (ix (nI j))))) else (f_X1_toSteal T C τ_31 (nI j) (τ_31.1 12 (ix (nI j))))) else (if (f_X1_leader T C σ (nI j)) = (-1) then (-1) else (f_X1_firstOf T C τ_31 (nI i_31) (τ_31.1 12 (ix (nI j))))))) 9 (ix (nI i_31)) (vp_nar .boolean (if ((if ((if (f_X1_leader T C σ (nI j)) = (-1) then (-1) else (f_X1_firstOf T C τ_31 (nI i_31) (τ_31.1 12 (ix (nI j))))) : Int32) = (-1) then (if (f_X1_leader T C σ (nI j)) = (-1) then (if (f_X1_leader T C σ (nI j)) = (-1) then (-1) else (f_X1_firstOf T C τ_31 (nI i_31) (τ_31.1 12 (ix (nI j))))) else (f_X1_toSteal T C τ_31 (nI j) (τ_31.1 12 (ix (nI j))))) else (if (f_X1_leader T C σ (nI j)) = (-1) then (-1) else (f_X1_firstOf T C τ_31 (nI i_31) (τ_31.1 12 (ix (nI j)))))) : Int32) = (-1) then (if (f_X1_queued T C (sI (if ((if (f_X1_leader T C σ (nI j)) = (-1) then (-1) else (f_X1_firstOf T C τ_31 (nI i_31) (τ_31.1 12 (ix (nI j))))) : Int32) = (-1) then (if (f_X1_leader T C σ (nI j)) = (-1) then τ_31 else (if (f_X1_toSteal T C τ_31 (nI j) (τ_31.1 12 (ix (nI j)))) = (-1) then τ_31 else (sS (g_X1_goesTo T C τ_31 (f_X1_toSteal T C τ_31 (nI j) (τ_31.1 12 (ix (nI j)))) (nI i_31)) 15 (((g_X1_goesTo T C τ_31 (f_X1_toSteal T C τ_31 (nI j) (τ_31.1 12 (ix (nI j)))) (nI i_31)).2.2 15) + 1)))) else τ_31) 8 (ix (nI i_31)) (if ((if (f_X1_leader T C σ (nI j)) = (-1) then (-1) else (f_X1_firstOf T C τ_31 (nI i_31) (τ_31.1 12 (ix (nI j))))) : Int32) = (-1) then (if (f_X1_leader T C σ (nI j)) = (-1) then (if (f_X1_leader T C σ (nI j)) = (-1) then (-1) else (f_X1_firstOf T C τ_31 (nI i_31) (τ_31.1 12 (ix (nI j))))) else (f_X1_toSteal T C τ_31 (nI j) (τ_31.1 12 (ix (nI j))))) else (if (f_X1_leader T C σ (nI j)) = (-1) then (-1) else (f_X1_firstOf T C τ_31 (nI i_31) (τ_31.1 12 (ix (nI j))))))) (nI i_31)) ≤ 0 then 0 else 1) else 0))) from rfl) hP) hS
            · refine lv_icmp_ne (tgt := 140) hx hb dX1_picks_125 (by decide) (fun h125 => ?_) (fun h125 => ?_)
              · skip
                refine lv_iconst (v := 0) hx hb dX1_picks_140 (by decide) ?_
                exact K125 _ _ _ _ ⟨0, (Eq.symm (if_neg h125)), rfl, lv_sub hl [0, 1, 2, 3, 4] rfl, hP, hS, hI⟩
              · skip
                refine lv_aload_n hx hb dX1_picks_128 rfl (lv_at hl 3 rfl) ?_
                refine lv_iload_n hx hb dX1_picks_129 rfl (lv_at hl 1 rfl) ?_
                refine cl_RI (k_X1_queued l E q hq hT hC (sI (if ((if (f_X1_leader T C σ (nI j)) = (-1) then (-1) else (f_X1_firstOf T C τ_31 (nI i_31) (τ_31.1 12 (ix (nI j))))) : Int32) = (-1) then (if (f_X1_leader T C σ (nI j)) = (-1) then τ_31 else (if (f_X1_toSteal T C τ_31 (nI j) (τ_31.1 12 (ix (nI j)))) = (-1) then τ_31 else (sS (g_X1_goesTo T C τ_31 (f_X1_toSteal T C τ_31 (nI j) (τ_31.1 12 (ix (nI j)))) (nI i_31)) 15 (((g_X1_goesTo T C τ_31 (f_X1_toSteal T C τ_31 (nI j) (τ_31.1 12 (ix (nI j)))) (nI i_31)).2.2 15) + 1)))) else τ_31) 8 (ix (nI i_31)) (if ((if (f_X1_leader T C σ (nI j)) = (-1) then (-1) else (f_X1_firstOf T C τ_31 (nI i_31) (τ_31.1 12 (ix (nI j))))) : Int32) = (-1) then (if (f_X1_leader T C σ (nI j)) = (-1) then (if (f_X1_leader T C σ (nI j)) = (-1) then (-1) else (f_X1_firstOf T C τ_31 (nI i_31) (τ_31.1 12 (ix (nI j))))) else (f_X1_toSteal T C τ_31 (nI j) (τ_31.1 12 (ix (nI j))))) else (if (f_X1_leader T C σ (nI j)) = (-1) then (-1) else (f_X1_firstOf T C τ_31 (nI i_31) (τ_31.1 12 (ix (nI j))))))) hI (nI i_31) ) gw_X1_109 hd_X1_queued ⟨rfl, rfl⟩ S0 hK hP (rest := [.int (nI i_31), .ref (q 10)]) rfl hl.1 (Nat.le_of_ble_eq_true rfl) ⟨(Nat.le_of_ble_eq_true rfl), (Nat.le_of_ble_eq_true rfl)⟩ ⟨Nat.zero_le _, Nat.zero_le _⟩ dX1_picks_130 (fun hex => ?_)
                refine lv_if_le (tgt := 140) hx hb dX1_picks_133 (by decide) (fun h133 => ?_) (fun h133 => ?_)
                · skip
                  refine lv_iconst (v := 0) hx hb dX1_picks_140 (by decide) ?_
                  exact K125 _ _ _ _ ⟨0, (Eq.symm (Eq.trans (if_pos h125) (if_pos h133))), rfl, lv_sub hl [0, 1, 2, 3, 4] rfl, hP, hS, hI⟩
                · skip
                  refine lv_iconst (v := 1) hx hb dX1_picks_136 (by decide) ?_
                  refine lv_goto (tgt := 141) hx hb dX1_picks_137 (by decide) ?_
                  exact K125 _ _ _ _ ⟨1, (Eq.symm (Eq.trans (if_pos h125) (if_neg h133))), rfl, lv_sub hl [0, 1, 2, 3, 4] rfl, hP, hS, hI⟩
          · refine lv_icmp_ne (tgt := 109) hx hb dX1_picks_65 (by decide) (fun h65 => ?_) (fun h65 => ?_)
            · skip
              exact K65 _ _ _ _ ⟨(if (f_X1_leader T C σ (nI j)) = (-1) then (-1) else (f_X1_firstOf T C τ_31 (nI i_31) (τ_31.1 12 (ix (nI j))))), (Eq.symm (if_neg h65)), τ_31, (Eq.symm (if_neg h65)), rfl, lv_sub hl [0, 1, 2, 3, 4] rfl, hP, hS, hI, hv42_y0⟩
            · skip
              refine lv_iload_n hx hb dX1_picks_68 rfl (lv_at hl 2 rfl) ?_
              refine lv_iconst (v := -1) hx hb dX1_picks_69 (by decide) ?_
              refine lv_icmp_eq (tgt := 109) hx hb dX1_picks_70 (by decide) (fun h70 => ?_) (fun h70 => ?_)
              · skip
                exact K65 _ _ _ _ ⟨(if (f_X1_leader T C σ (nI j)) = (-1) then (-1) else (f_X1_firstOf T C τ_31 (nI i_31) (τ_31.1 12 (ix (nI j))))), (Eq.symm (Eq.trans (if_pos h65) (if_pos h70))), τ_31, (Eq.symm (Eq.trans (if_pos h65) (if_pos h70))), rfl, lv_sub hl [0, 1, 2, 3, 4] rfl, hP, hS, hI, hv42_y0⟩
              · skip
                refine lv_aload_n hx hb dX1_picks_73 rfl (lv_at hl 3 rfl) ?_
                refine lv_iload_n hx hb dX1_picks_74 rfl (lv_at hl 4 rfl) ?_
                refine lv_aload_n hx hb dX1_picks_75 rfl (lv_at hl 3 rfl) ?_
                refine gf_X1_31 hx hb hts hown hK hP dX1_picks_76 ?_
                refine lv_iload_n hx hb dX1_picks_79 rfl (lv_at hl 4 rfl) ?_
                refine ld_12 hx hb hK hP (vp_in_nI (by omega) (by decide)) dX1_picks_80 ?_
                refine cl_RI (k_X1_toSteal l E q hq hT hC τ_31 hI (nI j) (τ_31.1 12 (ix (nI j))) ) gw_X1_102 hd_X1_toSteal ⟨rfl, rfl⟩ S0 hK hP (rest := []) rfl hl.1 (Nat.le_of_ble_eq_true rfl) ⟨(Nat.le_of_ble_eq_true rfl), (Nat.le_of_ble_eq_true rfl)⟩ ⟨Nat.zero_le _, Nat.zero_le _⟩ dX1_picks_81 (fun hex => ?_)
                obtain ⟨hx81_0, -⟩ := hex
                refine lv_istore (lv' := [(4, .int (f_X1_toSteal T C τ_31 (nI j) (τ_31.1 12 (ix (nI j))))), (3, .int (nI i_31)), (2, .int (f_X1_leader T C σ (nI j))), (0, .ref (q 0)), (1, .int (nI j))]) hx hb dX1_picks_84 hl (by decide) rfl (fun ls hl => ?_)
                refine lv_iload hx hb dX1_picks_86 (lv_at hl 0 rfl) ?_
                refine lv_iconst (v := -1) hx hb dX1_picks_88 (by decide) ?_
                refine lv_icmp_eq (tgt := 109) hx hb dX1_picks_89 (by decide) (fun h89 => ?_) (fun h89 => ?_)
                · skip
                  exact K65 _ _ _ _ ⟨(f_X1_toSteal T C τ_31 (nI j) (τ_31.1 12 (ix (nI j)))), (Eq.symm (Eq.trans (if_pos h65) (if_neg h70))), τ_31, (Eq.symm (Eq.trans (Eq.trans (if_pos h65) (if_neg h70)) (if_pos h89))), rfl, lv_sub hl [0, 1, 2, 3, 4] rfl, hP, hS, hI, hx81_0⟩
                · skip
                  refine lv_aload_n hx hb dX1_picks_92 rfl (lv_at hl 3 rfl) ?_
                  refine lv_iload hx hb dX1_picks_93 (lv_at hl 0 rfl) ?_
                  refine lv_iload_n hx hb dX1_picks_95 rfl (lv_at hl 1 rfl) ?_
                  refine cl_WV (k_X1_goesTo l E q hq hT hC τ_31 hI (f_X1_toSteal T C τ_31 (nI j) (τ_31.1 12 (ix (nI j)))) (nI i_31) (vo.in hx81_0 h89) (vp_in_nI (by omega) (by decide))) gw_X1_105 hd_X1_goesTo ⟨rfl, rfl⟩ S0 hK hP hS (rest := []) rfl hl.1 (Nat.le_of_ble_eq_true rfl) ⟨(Nat.le_of_ble_eq_true rfl), (Nat.le_of_ble_eq_true rfl)⟩ ⟨Nat.zero_le _, Nat.zero_le _⟩ dX1_picks_96 (fun H locs hP hS hex => ?_)
                  obtain ⟨hI, -⟩ := hex
                  refine lv_aload_n hx hb dX1_picks_99 rfl (lv_at hl 3 rfl) ?_
                  refine lv_dup hx hb dX1_picks_100 rfl ?_
                  refine gf_X1_66 hx hb hts hown hK hP dX1_picks_101 ?_
                  refine lv_iconst (v := 1) hx hb dX1_picks_104 (by decide) ?_
                  refine lv_iadd hx hb dX1_picks_105 ?_
                  refine pf_X1_66 hx hb hts hown hK hq hP hS dX1_picks_106 (fun H locs hP hS => ?_)
                  have hI : Inv T C (sS (g_X1_goesTo T C τ_31 (f_X1_toSteal T C τ_31 (nI j) (τ_31.1 12 (ix (nI j)))) (nI i_31)) 15 (((g_X1_goesTo T C τ_31 (f_X1_toSteal T C τ_31 (nI j) (τ_31.1 12 (ix (nI j)))) (nI i_31)).2.2 15) + 1)) := inv_sS (by decide) hI
                  exact K65 _ _ _ _ ⟨(f_X1_toSteal T C τ_31 (nI j) (τ_31.1 12 (ix (nI j)))), (Eq.symm (Eq.trans (if_pos h65) (if_neg h70))), (sS (g_X1_goesTo T C τ_31 (f_X1_toSteal T C τ_31 (nI j) (τ_31.1 12 (ix (nI j)))) (nI i_31)) 15 (((g_X1_goesTo T C τ_31 (f_X1_toSteal T C τ_31 (nI j) (τ_31.1 12 (ix (nI j)))) (nI i_31)).2.2 15) + 1)), (Eq.symm (Eq.trans (Eq.trans (if_pos h65) (if_neg h70)) (if_neg h89))), rfl, lv_sub hl [0, 1, 2, 3, 4] rfl, hP, hS, hI, hx81_0⟩
        · refine lv_icmp_ne (tgt := 49) hx hb dX1_picks_42 (by decide) (fun h42 => ?_) (fun h42 => ?_)
          · skip
            refine lv_aload_n hx hb dX1_picks_49 rfl (lv_at hl 2 rfl) ?_
            refine lv_iload_n hx hb dX1_picks_50 rfl (lv_at hl 0 rfl) ?_
            refine lv_aload_n hx hb dX1_picks_51 rfl (lv_at hl 2 rfl) ?_
            refine gf_X1_31 hx hb hts hown hK hP dX1_picks_52 ?_
            refine lv_iload_n hx hb dX1_picks_55 rfl (lv_at hl 3 rfl) ?_
            refine ld_12 hx hb hK hP (vp_in_nI (by omega) (by decide)) dX1_picks_56 ?_
            refine cl_RI (k_X1_firstOf l E q hq hT hC τ_31 hI (nI i_31) (τ_31.1 12 (ix (nI j))) ) gw_X1_98 hd_X1_firstOf ⟨rfl, rfl⟩ S0 hK hP (rest := []) rfl hl.1 (Nat.le_of_ble_eq_true rfl) ⟨(Nat.le_of_ble_eq_true rfl), (Nat.le_of_ble_eq_true rfl)⟩ ⟨Nat.zero_le _, Nat.zero_le _⟩ dX1_picks_57 (fun hex => ?_)
            obtain ⟨hx57_0, -⟩ := hex
            exact K42 _ _ _ _ ⟨(f_X1_firstOf T C τ_31 (nI i_31) (τ_31.1 12 (ix (nI j)))), (Eq.symm (if_neg h42)), rfl, lv_sub hl [0, 1, 2, 3] rfl, hP, hS, hI, hx57_0⟩
          · skip
            refine lv_iconst (v := -1) hx hb dX1_picks_45 (by decide) ?_
            refine lv_goto (tgt := 60) hx hb dX1_picks_46 (by decide) ?_
            exact K42 _ _ _ _ ⟨(-1), (Eq.symm (if_pos h42)), rfl, lv_sub hl [0, 1, 2, 3] rfl, hP, hS, hI, vo_1⟩
    exact L_31 2 (2 * j) (sI σ 12 (ix (nI j)) (if (f_X1_leader T C σ (nI j)) = (-1) then (-1) else (σ.1 2 (ix (f_X1_leader T C σ (nI j)))))) ls H locs rfl rfl hI (lv_sub hl [0, 1, 2, 3] rfl) hP hS
  · refine lv_icmp_ne (tgt := 20) hx hb dX1_picks_13 (by decide) (fun h13 => ?_) (fun h13 => ?_)
    · skip
      refine lv_aload_n hx hb dX1_picks_20 rfl (lv_at hl 1 rfl) ?_
      refine gf_X1_40 hx hb hts hown hK hP dX1_picks_21 ?_
      refine lv_iload_n hx hb dX1_picks_24 rfl (lv_at hl 0 rfl) ?_
      refine ld_2 hx hb hK hP (vo.in hx2_0 h13) dX1_picks_25 ?_
      exact K13 _ _ _ _ ⟨(σ.1 2 (ix (f_X1_leader T C σ (nI j)))), (Eq.symm (if_neg h13)), rfl, lv_sub hl [0, 1, 2] rfl, hP, hS, hI⟩
    · skip
      refine lv_iconst (v := -1) hx hb dX1_picks_16 (by decide) ?_
      refine lv_goto (tgt := 26) hx hb dX1_picks_17 (by decide) ?_
      exact K13 _ _ _ _ ⟨(-1), (Eq.symm (if_pos h13)), rfl, lv_sub hl [0, 1, 2] rfl, hP, hS, hI⟩
def F_X1_tickOne_2 (T : Nat) (C : Nat) : Nat → St → St := fun i_2 z => (g_X1_picks T C z i_2)
def F_X1_tickOne_25 : Nat → (Int32 × St) → (Int32 × St) := fun i_25 z => ((if ((z.2).1 3 (ix (nI i_25))) = 1 then ((z.1) + 1) else (z.1)), (sI (if ((z.2).1 3 (ix (nI i_25))) = 1 then (sJ (sI (z.2) 5 (ix (nI i_25)) (((z.2).1 5 (ix (nI i_25))) + 1)) 4 (ix (nI i_25)) (((sI (z.2) 5 (ix (nI i_25)) (((z.2).1 5 (ix (nI i_25))) + 1)).2.1 4 (ix (nI i_25))) + (Int32.toInt64 (5040 / ((sI (z.2) 5 (ix (nI i_25)) (((z.2).1 5 (ix (nI i_25))) + 1)).1 1 (ix (nI i_25))))))) else (z.2)) 6 (ix (nI i_25)) (((if ((z.2).1 3 (ix (nI i_25))) = 1 then (sJ (sI (z.2) 5 (ix (nI i_25)) (((z.2).1 5 (ix (nI i_25))) + 1)) 4 (ix (nI i_25)) (((sI (z.2) 5 (ix (nI i_25)) (((z.2).1 5 (ix (nI i_25))) + 1)).2.1 4 (ix (nI i_25))) + (Int32.toInt64 (5040 / ((sI (z.2) 5 (ix (nI i_25)) (((z.2).1 5 (ix (nI i_25))) + 1)).1 1 (ix (nI i_25))))))) else (z.2)).1 6 (ix (nI i_25))) + (if ((if ((z.2).1 3 (ix (nI i_25))) = 1 then (sJ (sI (z.2) 5 (ix (nI i_25)) (((z.2).1 5 (ix (nI i_25))) + 1)) 4 (ix (nI i_25)) (((sI (z.2) 5 (ix (nI i_25)) (((z.2).1 5 (ix (nI i_25))) + 1)).2.1 4 (ix (nI i_25))) + (Int32.toInt64 (5040 / ((sI (z.2) 5 (ix (nI i_25)) (((z.2).1 5 (ix (nI i_25))) + 1)).1 1 (ix (nI i_25))))))) else (z.2)).1 3 (ix (nI i_25))) = 0 then 1 else 0))))
def F_X1_tickOne_188 (T : Nat) (C : Nat) (i_107 : Nat) (τ_107 : St) : Nat → Int32 → Int32 := fun i_188 z => (if (f_X1_isRunnable T C (sI (sI τ_107 10 (ix (nI i_107)) ((τ_107.1 10 (ix (nI i_107))) + (if (τ_107.1 8 (ix (nI i_107))) = (-1) then (if (τ_107.1 9 (ix (nI i_107))) = 0 then 1 else 0) else 0))) 11 (ix (nI i_107)) (((sI τ_107 10 (ix (nI i_107)) ((τ_107.1 10 (ix (nI i_107))) + (if (τ_107.1 8 (ix (nI i_107))) = (-1) then (if (τ_107.1 9 (ix (nI i_107))) = 0 then 1 else 0) else 0))).1 11 (ix (nI i_107))) + (if ((sI τ_107 10 (ix (nI i_107)) ((τ_107.1 10 (ix (nI i_107))) + (if (τ_107.1 8 (ix (nI i_107))) = (-1) then (if (τ_107.1 9 (ix (nI i_107))) = 0 then 1 else 0) else 0))).1 8 (ix (nI i_107))) = (-1) then (if ((sI τ_107 10 (ix (nI i_107)) ((τ_107.1 10 (ix (nI i_107))) + (if (τ_107.1 8 (ix (nI i_107))) = (-1) then (if (τ_107.1 9 (ix (nI i_107))) = 0 then 1 else 0) else 0))).1 9 (ix (nI i_107))) = 0 then 0 else 1) else 0))) (nI i_188)) = 0 then z else (if ((sI (sI τ_107 10 (ix (nI i_107)) ((τ_107.1 10 (ix (nI i_107))) + (if (τ_107.1 8 (ix (nI i_107))) = (-1) then (if (τ_107.1 9 (ix (nI i_107))) = 0 then 1 else 0) else 0))) 11 (ix (nI i_107)) (((sI τ_107 10 (ix (nI i_107)) ((τ_107.1 10 (ix (nI i_107))) + (if (τ_107.1 8 (ix (nI i_107))) = (-1) then (if (τ_107.1 9 (ix (nI i_107))) = 0 then 1 else 0) else 0))).1 11 (ix (nI i_107))) + (if ((sI τ_107 10 (ix (nI i_107)) ((τ_107.1 10 (ix (nI i_107))) + (if (τ_107.1 8 (ix (nI i_107))) = (-1) then (if (τ_107.1 9 (ix (nI i_107))) = 0 then 1 else 0) else 0))).1 8 (ix (nI i_107))) = (-1) then (if ((sI τ_107 10 (ix (nI i_107)) ((τ_107.1 10 (ix (nI i_107))) + (if (τ_107.1 8 (ix (nI i_107))) = (-1) then (if (τ_107.1 9 (ix (nI i_107))) = 0 then 1 else 0) else 0))).1 9 (ix (nI i_107))) = 0 then 0 else 1) else 0))).1 0 (ix (nI i_188))) = (nI i_107) then (if z = (-1) then (nI i_188) else (if 0 ≤ (lg_cmp ((sI (sI τ_107 10 (ix (nI i_107)) ((τ_107.1 10 (ix (nI i_107))) + (if (τ_107.1 8 (ix (nI i_107))) = (-1) then (if (τ_107.1 9 (ix (nI i_107))) = 0 then 1 else 0) else 0))) 11 (ix (nI i_107)) (((sI τ_107 10 (ix (nI i_107)) ((τ_107.1 10 (ix (nI i_107))) + (if (τ_107.1 8 (ix (nI i_107))) = (-1) then (if (τ_107.1 9 (ix (nI i_107))) = 0 then 1 else 0) else 0))).1 11 (ix (nI i_107))) + (if ((sI τ_107 10 (ix (nI i_107)) ((τ_107.1 10 (ix (nI i_107))) + (if (τ_107.1 8 (ix (nI i_107))) = (-1) then (if (τ_107.1 9 (ix (nI i_107))) = 0 then 1 else 0) else 0))).1 8 (ix (nI i_107))) = (-1) then (if ((sI τ_107 10 (ix (nI i_107)) ((τ_107.1 10 (ix (nI i_107))) + (if (τ_107.1 8 (ix (nI i_107))) = (-1) then (if (τ_107.1 9 (ix (nI i_107))) = 0 then 1 else 0) else 0))).1 9 (ix (nI i_107))) = 0 then 0 else 1) else 0))).2.1 4 (ix (nI i_188))) ((sI (sI τ_107 10 (ix (nI i_107)) ((τ_107.1 10 (ix (nI i_107))) + (if (τ_107.1 8 (ix (nI i_107))) = (-1) then (if (τ_107.1 9 (ix (nI i_107))) = 0 then 1 else 0) else 0))) 11 (ix (nI i_107)) (((sI τ_107 10 (ix (nI i_107)) ((τ_107.1 10 (ix (nI i_107))) + (if (τ_107.1 8 (ix (nI i_107))) = (-1) then (if (τ_107.1 9 (ix (nI i_107))) = 0 then 1 else 0) else 0))).1 11 (ix (nI i_107))) + (if ((sI τ_107 10 (ix (nI i_107)) ((τ_107.1 10 (ix (nI i_107))) + (if (τ_107.1 8 (ix (nI i_107))) = (-1) then (if (τ_107.1 9 (ix (nI i_107))) = 0 then 1 else 0) else 0))).1 8 (ix (nI i_107))) = (-1) then (if ((sI τ_107 10 (ix (nI i_107)) ((τ_107.1 10 (ix (nI i_107))) + (if (τ_107.1 8 (ix (nI i_107))) = (-1) then (if (τ_107.1 9 (ix (nI i_107))) = 0 then 1 else 0) else 0))).1 9 (ix (nI i_107))) = 0 then 0 else 1) else 0))).2.1 4 (ix z))) then z else (nI i_188))) else z))
def F_X1_tickOne_107 (T : Nat) (C : Nat) : Nat → St → St := fun i_107 z => (sJ (sI (sI z 10 (ix (nI i_107)) ((z.1 10 (ix (nI i_107))) + (if (z.1 8 (ix (nI i_107))) = (-1) then (if (z.1 9 (ix (nI i_107))) = 0 then 1 else 0) else 0))) 11 (ix (nI i_107)) (((sI z 10 (ix (nI i_107)) ((z.1 10 (ix (nI i_107))) + (if (z.1 8 (ix (nI i_107))) = (-1) then (if (z.1 9 (ix (nI i_107))) = 0 then 1 else 0) else 0))).1 11 (ix (nI i_107))) + (if ((sI z 10 (ix (nI i_107)) ((z.1 10 (ix (nI i_107))) + (if (z.1 8 (ix (nI i_107))) = (-1) then (if (z.1 9 (ix (nI i_107))) = 0 then 1 else 0) else 0))).1 8 (ix (nI i_107))) = (-1) then (if ((sI z 10 (ix (nI i_107)) ((z.1 10 (ix (nI i_107))) + (if (z.1 8 (ix (nI i_107))) = (-1) then (if (z.1 9 (ix (nI i_107))) = 0 then 1 else 0) else 0))).1 9 (ix (nI i_107))) = 0 then 0 else 1) else 0))) 7 (ix (nI i_107)) (if (lp (F_X1_tickOne_188 T C i_107 z) T 0 (-1)) = (-1) then ((sI (sI z 10 (ix (nI i_107)) ((z.1 10 (ix (nI i_107))) + (if (z.1 8 (ix (nI i_107))) = (-1) then (if (z.1 9 (ix (nI i_107))) = 0 then 1 else 0) else 0))) 11 (ix (nI i_107)) (((sI z 10 (ix (nI i_107)) ((z.1 10 (ix (nI i_107))) + (if (z.1 8 (ix (nI i_107))) = (-1) then (if (z.1 9 (ix (nI i_107))) = 0 then 1 else 0) else 0))).1 11 (ix (nI i_107))) + (if ((sI z 10 (ix (nI i_107)) ((z.1 10 (ix (nI i_107))) + (if (z.1 8 (ix (nI i_107))) = (-1) then (if (z.1 9 (ix (nI i_107))) = 0 then 1 else 0) else 0))).1 8 (ix (nI i_107))) = (-1) then (if ((sI z 10 (ix (nI i_107)) ((z.1 10 (ix (nI i_107))) + (if (z.1 8 (ix (nI i_107))) = (-1) then (if (z.1 9 (ix (nI i_107))) = 0 then 1 else 0) else 0))).1 9 (ix (nI i_107))) = 0 then 0 else 1) else 0))).2.1 7 (ix (nI i_107))) else (if (lg_cmp ((sI (sI z 10 (ix (nI i_107)) ((z.1 10 (ix (nI i_107))) + (if (z.1 8 (ix (nI i_107))) = (-1) then (if (z.1 9 (ix (nI i_107))) = 0 then 1 else 0) else 0))) 11 (ix (nI i_107)) (((sI z 10 (ix (nI i_107)) ((z.1 10 (ix (nI i_107))) + (if (z.1 8 (ix (nI i_107))) = (-1) then (if (z.1 9 (ix (nI i_107))) = 0 then 1 else 0) else 0))).1 11 (ix (nI i_107))) + (if ((sI z 10 (ix (nI i_107)) ((z.1 10 (ix (nI i_107))) + (if (z.1 8 (ix (nI i_107))) = (-1) then (if (z.1 9 (ix (nI i_107))) = 0 then 1 else 0) else 0))).1 8 (ix (nI i_107))) = (-1) then (if ((sI z 10 (ix (nI i_107)) ((z.1 10 (ix (nI i_107))) + (if (z.1 8 (ix (nI i_107))) = (-1) then (if (z.1 9 (ix (nI i_107))) = 0 then 1 else 0) else 0))).1 9 (ix (nI i_107))) = 0 then 0 else 1) else 0))).2.1 4 (ix (lp (F_X1_tickOne_188 T C i_107 z) T 0 (-1)))) ((sI (sI z 10 (ix (nI i_107)) ((z.1 10 (ix (nI i_107))) + (if (z.1 8 (ix (nI i_107))) = (-1) then (if (z.1 9 (ix (nI i_107))) = 0 then 1 else 0) else 0))) 11 (ix (nI i_107)) (((sI z 10 (ix (nI i_107)) ((z.1 10 (ix (nI i_107))) + (if (z.1 8 (ix (nI i_107))) = (-1) then (if (z.1 9 (ix (nI i_107))) = 0 then 1 else 0) else 0))).1 11 (ix (nI i_107))) + (if ((sI z 10 (ix (nI i_107)) ((z.1 10 (ix (nI i_107))) + (if (z.1 8 (ix (nI i_107))) = (-1) then (if (z.1 9 (ix (nI i_107))) = 0 then 1 else 0) else 0))).1 8 (ix (nI i_107))) = (-1) then (if ((sI z 10 (ix (nI i_107)) ((z.1 10 (ix (nI i_107))) + (if (z.1 8 (ix (nI i_107))) = (-1) then (if (z.1 9 (ix (nI i_107))) = 0 then 1 else 0) else 0))).1 9 (ix (nI i_107))) = 0 then 0 else 1) else 0))).2.1 7 (ix (nI i_107)))) ≤ 0 then ((sI (sI z 10 (ix (nI i_107)) ((z.1 10 (ix (nI i_107))) + (if (z.1 8 (ix (nI i_107))) = (-1) then (if (z.1 9 (ix (nI i_107))) = 0 then 1 else 0) else 0))) 11 (ix (nI i_107)) (((sI z 10 (ix (nI i_107)) ((z.1 10 (ix (nI i_107))) + (if (z.1 8 (ix (nI i_107))) = (-1) then (if (z.1 9 (ix (nI i_107))) = 0 then 1 else 0) else 0))).1 11 (ix (nI i_107))) + (if ((sI z 10 (ix (nI i_107)) ((z.1 10 (ix (nI i_107))) + (if (z.1 8 (ix (nI i_107))) = (-1) then (if (z.1 9 (ix (nI i_107))) = 0 then 1 else 0) else 0))).1 8 (ix (nI i_107))) = (-1) then (if ((sI z 10 (ix (nI i_107)) ((z.1 10 (ix (nI i_107))) + (if (z.1 8 (ix (nI i_107))) = (-1) then (if (z.1 9 (ix (nI i_107))) = 0 then 1 else 0) else 0))).1 9 (ix (nI i_107))) = 0 then 0 else 1) else 0))).2.1 7 (ix (nI i_107))) else ((sI (sI z 10 (ix (nI i_107)) ((z.1 10 (ix (nI i_107))) + (if (z.1 8 (ix (nI i_107))) = (-1) then (if (z.1 9 (ix (nI i_107))) = 0 then 1 else 0) else 0))) 11 (ix (nI i_107)) (((sI z 10 (ix (nI i_107)) ((z.1 10 (ix (nI i_107))) + (if (z.1 8 (ix (nI i_107))) = (-1) then (if (z.1 9 (ix (nI i_107))) = 0 then 1 else 0) else 0))).1 11 (ix (nI i_107))) + (if ((sI z 10 (ix (nI i_107)) ((z.1 10 (ix (nI i_107))) + (if (z.1 8 (ix (nI i_107))) = (-1) then (if (z.1 9 (ix (nI i_107))) = 0 then 1 else 0) else 0))).1 8 (ix (nI i_107))) = (-1) then (if ((sI z 10 (ix (nI i_107)) ((z.1 10 (ix (nI i_107))) + (if (z.1 8 (ix (nI i_107))) = (-1) then (if (z.1 9 (ix (nI i_107))) = 0 then 1 else 0) else 0))).1 9 (ix (nI i_107))) = 0 then 0 else 1) else 0))).2.1 4 (ix (lp (F_X1_tickOne_188 T C i_107 z) T 0 (-1)))))))
def f_X1_tickOne (T C : Nat) (σ : St) : Int32 := ((lp F_X1_tickOne_25 T 0 (0, (lp (F_X1_tickOne_2 T C) C 0 σ))).1)
def g_X1_tickOne (T C : Nat) (σ : St) : St := (lp (F_X1_tickOne_107 T C) (2 * C) 0 ((lp F_X1_tickOne_25 T 0 (0, (lp (F_X1_tickOne_2 T C) C 0 σ))).2))
def rm_X1_tickOne : Room := { frames := 4, cells := 0, slots := 0, locals := 95 }
set_option maxHeartbeats 1600000 in
set_option maxRecDepth 100000 in
theorem k_X1_tickOne (l : Launch) (E : Ev) (q : Nat → Nat) (hq : Dq q) {T C : Nat} (hT : T ≤ 16) (hC : 1 ≤ C ∧ C ≤ 4) (σ : St) (hI : Inv T C σ) : WI l 1 E q σ yX1_tickOne cX1_tickOne 5 (some .int) rm_X1_tickOne [] (f_X1_tickOne T C σ) (g_X1_tickOne T C σ) (Inv T C (g_X1_tickOne T C σ) ∧ True) := by
  refine Met.ofB (by decide) (Nat.le_of_ble_eq_true rfl) (fun p e s m args below meth c ls Q B hQ hPK hl => ?_)
  obtain ⟨hx, hb, hml, hr, hlocks, hown, hts⟩ := B
  have S0 : Fx p m c cX1_tickOne 5 s args RX1 := ⟨hx, hb, hml, hown, hts⟩
  obtain ⟨hP, hK⟩ := hPK
  suffices KH : ∀ (H : Heap) (locs : List Loc), PP 1 E q σ H → va_S (Aq q) s.heap H locs → W p l e rm_X1_tickOne s m args below meth c H locs 0 0 Q (F0 m 0 ls []) from KH s.heap [] hP va_S.rf
  intro H locs hP hS
  have hl : lv_has ls 5 [(0, .ref (q 0))] := hl
  have hI0 := hI
  refine lv_iconst (v := 0) hx hb dX1_tickOne_0 (by decide) ?_
  refine lv_istore_n (lv' := [(1, .int 0), (0, .ref (q 0))]) hx hb dX1_tickOne_1 rfl hl (by decide) rfl (fun ls hl => ?_)
  have L_2 : ∀ (n_2 i_2 : Nat) (τ_2 : St) (ls : Array Slot) (H : Heap) (locs : List Loc), i_2 + n_2 = C → lp (F_X1_tickOne_2 T C) n_2 i_2 τ_2 = (lp (F_X1_tickOne_2 T C) C 0 σ) → Inv T C τ_2 → lv_has ls 5 [(1, .int (nI i_2)), (0, .ref (q 0))] → PP 1 E q τ_2 H → va_S (Aq q) s.heap H locs → W p l e rm_X1_tickOne s m args below meth c H locs 0 0 Q (F0 m 2 ls []) := by
    intro n_2
    induction n_2 with
    | zero =>
      intro i_2 τ_2 ls H locs hi_2 hres_2 hI hl hP hS
      have hres : τ_2 = (lp (F_X1_tickOne_2 T C) C 0 σ) := hres_2
      subst hres
      refine lv_iload_n hx hb dX1_tickOne_2 rfl (lv_at hl 0 rfl) ?_
      refine lv_aload_n hx hb dX1_tickOne_3 rfl (lv_at hl 1 rfl) ?_
      refine gf_X1_7 hx hb hts hown hK hP dX1_tickOne_4 ?_
      refine lv_icmp_ge (tgt := 21) hx hb dX1_tickOne_7 (by decide) (fun _ => ?_) (fun h => absurd (lp_out hI.2.2.1 (by omega) hi_2) h)
      have hl := lv_sub (l' := [(0, .ref (q 0))]) hl [1] rfl
      refine lv_iconst (v := 0) hx hb dX1_tickOne_21 (by decide) ?_
      refine lv_istore_n (lv' := [(1, .int 0), (0, .ref (q 0))]) hx hb dX1_tickOne_22 rfl hl (by decide) rfl (fun ls hl => ?_)
      refine lv_iconst (v := 0) hx hb dX1_tickOne_23 (by decide) ?_
      refine lv_istore_n (lv' := [(2, .int 0), (1, .int 0), (0, .ref (q 0))]) hx hb dX1_tickOne_24 rfl hl (by decide) rfl (fun ls hl => ?_)
      have L_25 : ∀ (n_25 i_25 : Nat) (a1_25 : Int32) (τ_25 : St) (ls : Array Slot) (H : Heap) (locs : List Loc), i_25 + n_25 = T → lp F_X1_tickOne_25 n_25 i_25 (a1_25, τ_25) = (lp F_X1_tickOne_25 T 0 (0, (lp (F_X1_tickOne_2 T C) C 0 σ))) → Inv T C τ_25 → lv_has ls 5 [(2, .int (nI i_25)), (1, .int a1_25), (0, .ref (q 0))] → PP 1 E q τ_25 H → va_S (Aq q) s.heap H locs → W p l e rm_X1_tickOne s m args below meth c H locs 0 0 Q (F0 m 25 ls []) := by
        intro n_25
        induction n_25 with
        | zero =>
          intro i_25 a1_25 τ_25 ls H locs hi_25 hres_25 hI hl hP hS
          have hres : (a1_25, τ_25) = (lp F_X1_tickOne_25 T 0 (0, (lp (F_X1_tickOne_2 T C) C 0 σ))) := hres_25
          have hr0 : a1_25 = ((lp F_X1_tickOne_25 T 0 (0, (lp (F_X1_tickOne_2 T C) C 0 σ))).1) := (congrArg Prod.fst hres)
          have hr1 : τ_25 = ((lp F_X1_tickOne_25 T 0 (0, (lp (F_X1_tickOne_2 T C) C 0 σ))).2) := (congrArg Prod.snd hres)
          clear hres hres_25
          subst hr0
          subst hr1
          refine lv_iload_n hx hb dX1_tickOne_25 rfl (lv_at hl 0 rfl) ?_
          refine lv_aload_n hx hb dX1_tickOne_26 rfl (lv_at hl 2 rfl) ?_
          refine gf_X1_69 hx hb hts hown hK hP dX1_tickOne_27 ?_
          refine lv_icmp_ge (tgt := 105) hx hb dX1_tickOne_30 (by decide) (fun _ => ?_) (fun h => absurd (lp_out hI.2.1 (by omega) hi_25) h)
          have hl := lv_sub (l' := [(1, .int ((lp F_X1_tickOne_25 T 0 (0, (lp (F_X1_tickOne_2 T C) C 0 σ))).1)), (0, .ref (q 0))]) hl [1, 2] rfl
          refine lv_iconst (v := 0) hx hb dX1_tickOne_105 (by decide) ?_
          refine lv_istore_n (lv' := [(2, .int 0), (1, .int ((lp F_X1_tickOne_25 T 0 (0, (lp (F_X1_tickOne_2 T C) C 0 σ))).1)), (0, .ref (q 0))]) hx hb dX1_tickOne_106 rfl hl (by decide) rfl (fun ls hl => ?_)
          have L_107 : ∀ (n_107 i_107 : Nat) (τ_107 : St) (ls : Array Slot) (H : Heap) (locs : List Loc), i_107 + n_107 = (2 * C) → lp (F_X1_tickOne_107 T C) n_107 i_107 τ_107 = (lp (F_X1_tickOne_107 T C) (2 * C) 0 ((lp F_X1_tickOne_25 T 0 (0, (lp (F_X1_tickOne_2 T C) C 0 σ))).2)) → Inv T C τ_107 → lv_has ls 5 [(2, .int (nI i_107)), (1, .int ((lp F_X1_tickOne_25 T 0 (0, (lp (F_X1_tickOne_2 T C) C 0 σ))).1)), (0, .ref (q 0))] → PP 1 E q τ_107 H → va_S (Aq q) s.heap H locs → W p l e rm_X1_tickOne s m args below meth c H locs 0 0 Q (F0 m 107 ls []) := by
            intro n_107
            induction n_107 with
            | zero =>
              intro i_107 τ_107 ls H locs hi_107 hres_107 hI hl hP hS
              have hres : τ_107 = (lp (F_X1_tickOne_107 T C) (2 * C) 0 ((lp F_X1_tickOne_25 T 0 (0, (lp (F_X1_tickOne_2 T C) C 0 σ))).2)) := hres_107
              subst hres
              refine lv_iload_n hx hb dX1_tickOne_107 rfl (lv_at hl 0 rfl) ?_
              refine lv_iconst (v := 2) hx hb dX1_tickOne_108 (by decide) ?_
              refine lv_aload_n hx hb dX1_tickOne_109 rfl (lv_at hl 2 rfl) ?_
              refine gf_X1_7 hx hb hts hown hK hP dX1_tickOne_110 ?_
              refine lv_imul hx hb dX1_tickOne_113 ?_
              refine lv_icmp_ge (tgt := 300) hx hb dX1_tickOne_114 (by decide) (fun _ => ?_) (fun h => absurd (lp_out (cpuT hI) (by omega) hi_107) h)
              have hl := lv_sub (l' := [(1, .int ((lp F_X1_tickOne_25 T 0 (0, (lp (F_X1_tickOne_2 T C) C 0 σ))).1)), (0, .ref (q 0))]) hl [1, 2] rfl
              refine lv_iload_n hx hb dX1_tickOne_300 rfl (lv_at hl 0 rfl) ?_
              exact rt_WI hQ hx hb hr hlocks (Eq.subst (motive := fun z => PP 1 E q z H) (show (lp (F_X1_tickOne_107 T C) (2 * C) 0 ((lp F_X1_tickOne_25 T 0 (0, (lp (F_X1_tickOne_2 T C) C 0 σ))).2)) = (g_X1_tickOne T C σ) from rfl) hP) hS ⟨rfl, ⟨Eq.subst (motive := fun z => Inv T C z) (show (lp (F_X1_tickOne_107 T C) (2 * C) 0 ((lp F_X1_tickOne_25 T 0 (0, (lp (F_X1_tickOne_2 T C) C 0 σ))).2)) = (g_X1_tickOne T C σ) from rfl) hI, trivial⟩⟩ dX1_tickOne_301
            | succ n_107 ih_107 =>
              intro i_107 τ_107 ls H locs hi_107 hres_107 hI hl hP hS
              refine lv_iload_n hx hb dX1_tickOne_107 rfl (lv_at hl 0 rfl) ?_
              refine lv_iconst (v := 2) hx hb dX1_tickOne_108 (by decide) ?_
              refine lv_aload_n hx hb dX1_tickOne_109 rfl (lv_at hl 2 rfl) ?_
              refine gf_X1_7 hx hb hts hown hK hP dX1_tickOne_110 ?_
              refine lv_imul hx hb dX1_tickOne_113 ?_
              refine lv_icmp_ge (tgt := 300) hx hb dX1_tickOne_114 (by decide) (fun h => absurd h (lp_in (cpuT hI) (by omega) hi_107)) (fun _ => ?_)
              refine lv_aload_n hx hb dX1_tickOne_117 rfl (lv_at hl 2 rfl) ?_
              refine gf_X1_25 hx hb hts hown hK hP dX1_tickOne_118 ?_
              refine lv_iload_n hx hb dX1_tickOne_121 rfl (lv_at hl 0 rfl) ?_
              refine lv_dup2_11 hx hb dX1_tickOne_122 rfl rfl ?_
              refine ld_10 hx hb hK hP (vp_in_nI (by omega) (by decide)) dX1_tickOne_123 ?_
              refine lv_aload_n hx hb dX1_tickOne_124 rfl (lv_at hl 2 rfl) ?_
              refine gf_X1_17 hx hb hts hown hK hP dX1_tickOne_125 ?_
              refine lv_iload_n hx hb dX1_tickOne_128 rfl (lv_at hl 0 rfl) ?_
              refine ld_8 hx hb hK hP (vp_in_nI (by omega) (by decide)) dX1_tickOne_129 ?_
              refine lv_iconst (v := -1) hx hb dX1_tickOne_130 (by decide) ?_
              refine cutG (fun ls H locs st => ∃ y0 : Int32, y0 = (if (τ_107.1 8 (ix (nI i_107))) = (-1) then (if (τ_107.1 9 (ix (nI i_107))) = 0 then 1 else 0) else 0) ∧ st = [.int y0, .int (τ_107.1 10 (ix (nI i_107))), .int (nI i_107), .ref (q 11)] ∧ lv_has ls 5 [(2, .int (nI i_107)), (1, .int ((lp F_X1_tickOne_25 T 0 (0, (lp (F_X1_tickOne_2 T C) C 0 σ))).1)), (0, .ref (q 0))] ∧ PP 1 E q τ_107 H ∧ va_S (Aq q) s.heap H locs ∧ Inv T C τ_107) 148 (fun ls H locs st hKp => ?_) (fun K131 => ?_)
              · revert hKp
                refine ex_eq (fun hKp => ?_)
                obtain ⟨rfl, hl, hP, hS, hI⟩ := hKp
                refine lv_iadd hx hb dX1_tickOne_148 ?_
                refine st_10 hx hb hK hq hP hS (vp_in_nI (by omega) (by decide)) dX1_tickOne_149 (fun H locs hP hS => ?_)
                have hI : Inv T C (sI τ_107 10 (ix (nI i_107)) ((τ_107.1 10 (ix (nI i_107))) + (if (τ_107.1 8 (ix (nI i_107))) = (-1) then (if (τ_107.1 9 (ix (nI i_107))) = 0 then 1 else 0) else 0))) := inv_sI (by decide) hI
                refine lv_aload_n hx hb dX1_tickOne_150 rfl (lv_at hl 2 rfl) ?_
                refine gf_X1_28 hx hb hts hown hK hP dX1_tickOne_151 ?_
                refine lv_iload_n hx hb dX1_tickOne_154 rfl (lv_at hl 0 rfl) ?_
                refine lv_dup2_11 hx hb dX1_tickOne_155 rfl rfl ?_
                refine ld_11 hx hb hK hP (vp_in_nI (by omega) (by decide)) dX1_tickOne_156 ?_
                refine lv_aload_n hx hb dX1_tickOne_157 rfl (lv_at hl 2 rfl) ?_
                refine gf_X1_17 hx hb hts hown hK hP dX1_tickOne_158 ?_
                refine lv_iload_n hx hb dX1_tickOne_161 rfl (lv_at hl 0 rfl) ?_
                refine ld_8 hx hb hK hP (vp_in_nI (by omega) (by decide)) dX1_tickOne_162 ?_
                refine lv_iconst (v := -1) hx hb dX1_tickOne_163 (by decide) ?_
                refine cutG (fun ls H locs st => ∃ y0 : Int32, y0 = (if ((sI τ_107 10 (ix (nI i_107)) ((τ_107.1 10 (ix (nI i_107))) + (if (τ_107.1 8 (ix (nI i_107))) = (-1) then (if (τ_107.1 9 (ix (nI i_107))) = 0 then 1 else 0) else 0))).1 8 (ix (nI i_107))) = (-1) then (if ((sI τ_107 10 (ix (nI i_107)) ((τ_107.1 10 (ix (nI i_107))) + (if (τ_107.1 8 (ix (nI i_107))) = (-1) then (if (τ_107.1 9 (ix (nI i_107))) = 0 then 1 else 0) else 0))).1 9 (ix (nI i_107))) = 0 then 0 else 1) else 0) ∧ st = [.int y0, .int ((sI τ_107 10 (ix (nI i_107)) ((τ_107.1 10 (ix (nI i_107))) + (if (τ_107.1 8 (ix (nI i_107))) = (-1) then (if (τ_107.1 9 (ix (nI i_107))) = 0 then 1 else 0) else 0))).1 11 (ix (nI i_107))), .int (nI i_107), .ref (q 12)] ∧ lv_has ls 5 [(2, .int (nI i_107)), (1, .int ((lp F_X1_tickOne_25 T 0 (0, (lp (F_X1_tickOne_2 T C) C 0 σ))).1)), (0, .ref (q 0))] ∧ PP 1 E q (sI τ_107 10 (ix (nI i_107)) ((τ_107.1 10 (ix (nI i_107))) + (if (τ_107.1 8 (ix (nI i_107))) = (-1) then (if (τ_107.1 9 (ix (nI i_107))) = 0 then 1 else 0) else 0))) H ∧ va_S (Aq q) s.heap H locs ∧ Inv T C (sI τ_107 10 (ix (nI i_107)) ((τ_107.1 10 (ix (nI i_107))) + (if (τ_107.1 8 (ix (nI i_107))) = (-1) then (if (τ_107.1 9 (ix (nI i_107))) = 0 then 1 else 0) else 0)))) 181 (fun ls H locs st hKp => ?_) (fun K164 => ?_)
                · revert hKp
                  refine ex_eq (fun hKp => ?_)
                  obtain ⟨rfl, hl, hP, hS, hI⟩ := hKp
                  refine lv_iadd hx hb dX1_tickOne_181 ?_
                  refine st_11 hx hb hK hq hP hS (vp_in_nI (by omega) (by decide)) dX1_tickOne_182 (fun H locs hP hS => ?_)
                  have hI : Inv T C (sI (sI τ_107 10 (ix (nI i_107)) ((τ_107.1 10 (ix (nI i_107))) + (if (τ_107.1 8 (ix (nI i_107))) = (-1) then (if (τ_107.1 9 (ix (nI i_107))) = 0 then 1 else 0) else 0))) 11 (ix (nI i_107)) (((sI τ_107 10 (ix (nI i_107)) ((τ_107.1 10 (ix (nI i_107))) + (if (τ_107.1 8 (ix (nI i_107))) = (-1) then (if (τ_107.1 9 (ix (nI i_107))) = 0 then 1 else 0) else 0))).1 11 (ix (nI i_107))) + (if ((sI τ_107 10 (ix (nI i_107)) ((τ_107.1 10 (ix (nI i_107))) + (if (τ_107.1 8 (ix (nI i_107))) = (-1) then (if (τ_107.1 9 (ix (nI i_107))) = 0 then 1 else 0) else 0))).1 8 (ix (nI i_107))) = (-1) then (if ((sI τ_107 10 (ix (nI i_107)) ((τ_107.1 10 (ix (nI i_107))) + (if (τ_107.1 8 (ix (nI i_107))) = (-1) then (if (τ_107.1 9 (ix (nI i_107))) = 0 then 1 else 0) else 0))).1 9 (ix (nI i_107))) = 0 then 0 else 1) else 0))) := inv_sI (by decide) hI
                  refine lv_iconst (v := -1) hx hb dX1_tickOne_183 (by decide) ?_
                  refine lv_istore_n (lv' := [(3, .int (-1)), (2, .int (nI i_107)), (1, .int ((lp F_X1_tickOne_25 T 0 (0, (lp (F_X1_tickOne_2 T C) C 0 σ))).1)), (0, .ref (q 0))]) hx hb dX1_tickOne_184 rfl hl (by decide) rfl (fun ls hl => ?_)
                  refine lv_iconst (v := 0) hx hb dX1_tickOne_185 (by decide) ?_
                  refine lv_istore (lv' := [(4, .int 0), (3, .int (-1)), (2, .int (nI i_107)), (1, .int ((lp F_X1_tickOne_25 T 0 (0, (lp (F_X1_tickOne_2 T C) C 0 σ))).1)), (0, .ref (q 0))]) hx hb dX1_tickOne_186 hl (by decide) rfl (fun ls hl => ?_)
                  have L_188 : ∀ (n_188 i_188 : Nat) (a3_188 : Int32) (ls : Array Slot) (H : Heap) (locs : List Loc), i_188 + n_188 = T → lp (F_X1_tickOne_188 T C i_107 τ_107) n_188 i_188 a3_188 = (lp (F_X1_tickOne_188 T C i_107 τ_107) T 0 (-1)) → vo a3_188 → lv_has ls 5 [(4, .int (nI i_188)), (3, .int a3_188), (2, .int (nI i_107)), (1, .int ((lp F_X1_tickOne_25 T 0 (0, (lp (F_X1_tickOne_2 T C) C 0 σ))).1)), (0, .ref (q 0))] → PP 1 E q (sI (sI τ_107 10 (ix (nI i_107)) ((τ_107.1 10 (ix (nI i_107))) + (if (τ_107.1 8 (ix (nI i_107))) = (-1) then (if (τ_107.1 9 (ix (nI i_107))) = 0 then 1 else 0) else 0))) 11 (ix (nI i_107)) (((sI τ_107 10 (ix (nI i_107)) ((τ_107.1 10 (ix (nI i_107))) + (if (τ_107.1 8 (ix (nI i_107))) = (-1) then (if (τ_107.1 9 (ix (nI i_107))) = 0 then 1 else 0) else 0))).1 11 (ix (nI i_107))) + (if ((sI τ_107 10 (ix (nI i_107)) ((τ_107.1 10 (ix (nI i_107))) + (if (τ_107.1 8 (ix (nI i_107))) = (-1) then (if (τ_107.1 9 (ix (nI i_107))) = 0 then 1 else 0) else 0))).1 8 (ix (nI i_107))) = (-1) then (if ((sI τ_107 10 (ix (nI i_107)) ((τ_107.1 10 (ix (nI i_107))) + (if (τ_107.1 8 (ix (nI i_107))) = (-1) then (if (τ_107.1 9 (ix (nI i_107))) = 0 then 1 else 0) else 0))).1 9 (ix (nI i_107))) = 0 then 0 else 1) else 0))) H → va_S (Aq q) s.heap H locs → W p l e rm_X1_tickOne s m args below meth c H locs 0 0 Q (F0 m 188 ls []) := by
                    intro n_188
                    induction n_188 with
                    | zero =>
                      intro i_188 a3_188 ls H locs hi_188 hres_188 hvo_a3_188 hl hP hS
                      have hres : a3_188 = (lp (F_X1_tickOne_188 T C i_107 τ_107) T 0 (-1)) := hres_188
                      subst hres
                      refine lv_iload hx hb dX1_tickOne_188 (lv_at hl 0 rfl) ?_
                      refine lv_aload_n hx hb dX1_tickOne_190 rfl (lv_at hl 4 rfl) ?_
                      refine gf_X1_69 hx hb hts hown hK hP dX1_tickOne_191 ?_
                      refine lv_icmp_ge (tgt := 252) hx hb dX1_tickOne_194 (by decide) (fun _ => ?_) (fun h => absurd (lp_out hI.2.1 (by omega) hi_188) h)
                      have hl := lv_sub (l' := [(3, .int (lp (F_X1_tickOne_188 T C i_107 τ_107) T 0 (-1))), (2, .int (nI i_107)), (1, .int ((lp F_X1_tickOne_25 T 0 (0, (lp (F_X1_tickOne_2 T C) C 0 σ))).1)), (0, .ref (q 0))]) hl [1, 2, 3, 4] rfl
                      refine lv_aload_n hx hb dX1_tickOne_252 rfl (lv_at hl 3 rfl) ?_
                      refine gf_X1_13 hx hb hts hown hK hP dX1_tickOne_253 ?_
                      refine lv_iload_n hx hb dX1_tickOne_256 rfl (lv_at hl 1 rfl) ?_
                      refine lv_iload_n hx hb dX1_tickOne_257 rfl (lv_at hl 0 rfl) ?_
                      refine lv_iconst (v := -1) hx hb dX1_tickOne_258 (by decide) ?_
                      refine cutG (fun ls H locs st => ∃ y0 : Int64, y0 = (if (lp (F_X1_tickOne_188 T C i_107 τ_107) T 0 (-1)) = (-1) then ((sI (sI τ_107 10 (ix (nI i_107)) ((τ_107.1 10 (ix (nI i_107))) + (if (τ_107.1 8 (ix (nI i_107))) = (-1) then (if (τ_107.1 9 (ix (nI i_107))) = 0 then 1 else 0) else 0))) 11 (ix (nI i_107)) (((sI τ_107 10 (ix (nI i_107)) ((τ_107.1 10 (ix (nI i_107))) + (if (τ_107.1 8 (ix (nI i_107))) = (-1) then (if (τ_107.1 9 (ix (nI i_107))) = 0 then 1 else 0) else 0))).1 11 (ix (nI i_107))) + (if ((sI τ_107 10 (ix (nI i_107)) ((τ_107.1 10 (ix (nI i_107))) + (if (τ_107.1 8 (ix (nI i_107))) = (-1) then (if (τ_107.1 9 (ix (nI i_107))) = 0 then 1 else 0) else 0))).1 8 (ix (nI i_107))) = (-1) then (if ((sI τ_107 10 (ix (nI i_107)) ((τ_107.1 10 (ix (nI i_107))) + (if (τ_107.1 8 (ix (nI i_107))) = (-1) then (if (τ_107.1 9 (ix (nI i_107))) = 0 then 1 else 0) else 0))).1 9 (ix (nI i_107))) = 0 then 0 else 1) else 0))).2.1 7 (ix (nI i_107))) else (if (lg_cmp ((sI (sI τ_107 10 (ix (nI i_107)) ((τ_107.1 10 (ix (nI i_107))) + (if (τ_107.1 8 (ix (nI i_107))) = (-1) then (if (τ_107.1 9 (ix (nI i_107))) = 0 then 1 else 0) else 0))) 11 (ix (nI i_107)) (((sI τ_107 10 (ix (nI i_107)) ((τ_107.1 10 (ix (nI i_107))) + (if (τ_107.1 8 (ix (nI i_107))) = (-1) then (if (τ_107.1 9 (ix (nI i_107))) = 0 then 1 else 0) else 0))).1 11 (ix (nI i_107))) + (if ((sI τ_107 10 (ix (nI i_107)) ((τ_107.1 10 (ix (nI i_107))) + (if (τ_107.1 8 (ix (nI i_107))) = (-1) then (if (τ_107.1 9 (ix (nI i_107))) = 0 then 1 else 0) else 0))).1 8 (ix (nI i_107))) = (-1) then (if ((sI τ_107 10 (ix (nI i_107)) ((τ_107.1 10 (ix (nI i_107))) + (if (τ_107.1 8 (ix (nI i_107))) = (-1) then (if (τ_107.1 9 (ix (nI i_107))) = 0 then 1 else 0) else 0))).1 9 (ix (nI i_107))) = 0 then 0 else 1) else 0))).2.1 4 (ix (lp (F_X1_tickOne_188 T C i_107 τ_107) T 0 (-1)))) ((sI (sI τ_107 10 (ix (nI i_107)) ((τ_107.1 10 (ix (nI i_107))) + (if (τ_107.1 8 (ix (nI i_107))) = (-1) then (if (τ_107.1 9 (ix (nI i_107))) = 0 then 1 else 0) else 0))) 11 (ix (nI i_107)) (((sI τ_107 10 (ix (nI i_107)) ((τ_107.1 10 (ix (nI i_107))) + (if (τ_107.1 8 (ix (nI i_107))) = (-1) then (if (τ_107.1 9 (ix (nI i_107))) = 0 then 1 else 0) else 0))).1 11 (ix (nI i_107))) + (if ((sI τ_107 10 (ix (nI i_107)) ((τ_107.1 10 (ix (nI i_107))) + (if (τ_107.1 8 (ix (nI i_107))) = (-1) then (if (τ_107.1 9 (ix (nI i_107))) = 0 then 1 else 0) else 0))).1 8 (ix (nI i_107))) = (-1) then (if ((sI τ_107 10 (ix (nI i_107)) ((τ_107.1 10 (ix (nI i_107))) + (if (τ_107.1 8 (ix (nI i_107))) = (-1) then (if (τ_107.1 9 (ix (nI i_107))) = 0 then 1 else 0) else 0))).1 9 (ix (nI i_107))) = 0 then 0 else 1) else 0))).2.1 7 (ix (nI i_107)))) ≤ 0 then ((sI (sI τ_107 10 (ix (nI i_107)) ((τ_107.1 10 (ix (nI i_107))) + (if (τ_107.1 8 (ix (nI i_107))) = (-1) then (if (τ_107.1 9 (ix (nI i_107))) = 0 then 1 else 0) else 0))) 11 (ix (nI i_107)) (((sI τ_107 10 (ix (nI i_107)) ((τ_107.1 10 (ix (nI i_107))) + (if (τ_107.1 8 (ix (nI i_107))) = (-1) then (if (τ_107.1 9 (ix (nI i_107))) = 0 then 1 else 0) else 0))).1 11 (ix (nI i_107))) + (if ((sI τ_107 10 (ix (nI i_107)) ((τ_107.1 10 (ix (nI i_107))) + (if (τ_107.1 8 (ix (nI i_107))) = (-1) then (if (τ_107.1 9 (ix (nI i_107))) = 0 then 1 else 0) else 0))).1 8 (ix (nI i_107))) = (-1) then (if ((sI τ_107 10 (ix (nI i_107)) ((τ_107.1 10 (ix (nI i_107))) + (if (τ_107.1 8 (ix (nI i_107))) = (-1) then (if (τ_107.1 9 (ix (nI i_107))) = 0 then 1 else 0) else 0))).1 9 (ix (nI i_107))) = 0 then 0 else 1) else 0))).2.1 7 (ix (nI i_107))) else ((sI (sI τ_107 10 (ix (nI i_107)) ((τ_107.1 10 (ix (nI i_107))) + (if (τ_107.1 8 (ix (nI i_107))) = (-1) then (if (τ_107.1 9 (ix (nI i_107))) = 0 then 1 else 0) else 0))) 11 (ix (nI i_107)) (((sI τ_107 10 (ix (nI i_107)) ((τ_107.1 10 (ix (nI i_107))) + (if (τ_107.1 8 (ix (nI i_107))) = (-1) then (if (τ_107.1 9 (ix (nI i_107))) = 0 then 1 else 0) else 0))).1 11 (ix (nI i_107))) + (if ((sI τ_107 10 (ix (nI i_107)) ((τ_107.1 10 (ix (nI i_107))) + (if (τ_107.1 8 (ix (nI i_107))) = (-1) then (if (τ_107.1 9 (ix (nI i_107))) = 0 then 1 else 0) else 0))).1 8 (ix (nI i_107))) = (-1) then (if ((sI τ_107 10 (ix (nI i_107)) ((τ_107.1 10 (ix (nI i_107))) + (if (τ_107.1 8 (ix (nI i_107))) = (-1) then (if (τ_107.1 9 (ix (nI i_107))) = 0 then 1 else 0) else 0))).1 9 (ix (nI i_107))) = 0 then 0 else 1) else 0))).2.1 4 (ix (lp (F_X1_tickOne_188 T C i_107 τ_107) T 0 (-1)))))) ∧ st = [.long y0, .int (nI i_107), .ref (q 8)] ∧ lv_has ls 5 [(3, .int (lp (F_X1_tickOne_188 T C i_107 τ_107) T 0 (-1))), (2, .int (nI i_107)), (1, .int ((lp F_X1_tickOne_25 T 0 (0, (lp (F_X1_tickOne_2 T C) C 0 σ))).1)), (0, .ref (q 0))] ∧ PP 1 E q (sI (sI τ_107 10 (ix (nI i_107)) ((τ_107.1 10 (ix (nI i_107))) + (if (τ_107.1 8 (ix (nI i_107))) = (-1) then (if (τ_107.1 9 (ix (nI i_107))) = 0 then 1 else 0) else 0))) 11 (ix (nI i_107)) (((sI τ_107 10 (ix (nI i_107)) ((τ_107.1 10 (ix (nI i_107))) + (if (τ_107.1 8 (ix (nI i_107))) = (-1) then (if (τ_107.1 9 (ix (nI i_107))) = 0 then 1 else 0) else 0))).1 11 (ix (nI i_107))) + (if ((sI τ_107 10 (ix (nI i_107)) ((τ_107.1 10 (ix (nI i_107))) + (if (τ_107.1 8 (ix (nI i_107))) = (-1) then (if (τ_107.1 9 (ix (nI i_107))) = 0 then 1 else 0) else 0))).1 8 (ix (nI i_107))) = (-1) then (if ((sI τ_107 10 (ix (nI i_107)) ((τ_107.1 10 (ix (nI i_107))) + (if (τ_107.1 8 (ix (nI i_107))) = (-1) then (if (τ_107.1 9 (ix (nI i_107))) = 0 then 1 else 0) else 0))).1 9 (ix (nI i_107))) = 0 then 0 else 1) else 0))) H ∧ va_S (Aq q) s.heap H locs ∧ Inv T C (sI (sI τ_107 10 (ix (nI i_107)) ((τ_107.1 10 (ix (nI i_107))) + (if (τ_107.1 8 (ix (nI i_107))) = (-1) then (if (τ_107.1 9 (ix (nI i_107))) = 0 then 1 else 0) else 0))) 11 (ix (nI i_107)) (((sI τ_107 10 (ix (nI i_107)) ((τ_107.1 10 (ix (nI i_107))) + (if (τ_107.1 8 (ix (nI i_107))) = (-1) then (if (τ_107.1 9 (ix (nI i_107))) = 0 then 1 else 0) else 0))).1 11 (ix (nI i_107))) + (if ((sI τ_107 10 (ix (nI i_107)) ((τ_107.1 10 (ix (nI i_107))) + (if (τ_107.1 8 (ix (nI i_107))) = (-1) then (if (τ_107.1 9 (ix (nI i_107))) = 0 then 1 else 0) else 0))).1 8 (ix (nI i_107))) = (-1) then (if ((sI τ_107 10 (ix (nI i_107)) ((τ_107.1 10 (ix (nI i_107))) + (if (τ_107.1 8 (ix (nI i_107))) = (-1) then (if (τ_107.1 9 (ix (nI i_107))) = 0 then 1 else 0) else 0))).1 9 (ix (nI i_107))) = 0 then 0 else 1) else 0)))) 293 (fun ls H locs st hKp => ?_) (fun K259 => ?_)
                      · revert hKp
                        refine ex_eq (fun hKp => ?_)
                        obtain ⟨rfl, hl, hP, hS, hI⟩ := hKp
                        refine st_7 hx hb hK hq hP hS (vp_in_nI (by omega) (by decide)) dX1_tickOne_293 (fun H locs hP hS => ?_)
                        have hI : Inv T C (sJ (sI (sI τ_107 10 (ix (nI i_107)) ((τ_107.1 10 (ix (nI i_107))) + (if (τ_107.1 8 (ix (nI i_107))) = (-1) then (if (τ_107.1 9 (ix (nI i_107))) = 0 then 1 else 0) else 0))) 11 (ix (nI i_107)) (((sI τ_107 10 (ix (nI i_107)) ((τ_107.1 10 (ix (nI i_107))) + (if (τ_107.1 8 (ix (nI i_107))) = (-1) then (if (τ_107.1 9 (ix (nI i_107))) = 0 then 1 else 0) else 0))).1 11 (ix (nI i_107))) + (if ((sI τ_107 10 (ix (nI i_107)) ((τ_107.1 10 (ix (nI i_107))) + (if (τ_107.1 8 (ix (nI i_107))) = (-1) then (if (τ_107.1 9 (ix (nI i_107))) = 0 then 1 else 0) else 0))).1 8 (ix (nI i_107))) = (-1) then (if ((sI τ_107 10 (ix (nI i_107)) ((τ_107.1 10 (ix (nI i_107))) + (if (τ_107.1 8 (ix (nI i_107))) = (-1) then (if (τ_107.1 9 (ix (nI i_107))) = 0 then 1 else 0) else 0))).1 9 (ix (nI i_107))) = 0 then 0 else 1) else 0))) 7 (ix (nI i_107)) (if (lp (F_X1_tickOne_188 T C i_107 τ_107) T 0 (-1)) = (-1) then ((sI (sI τ_107 10 (ix (nI i_107)) ((τ_107.1 10 (ix (nI i_107))) + (if (τ_107.1 8 (ix (nI i_107))) = (-1) then (if (τ_107.1 9 (ix (nI i_107))) = 0 then 1 else 0) else 0))) 11 (ix (nI i_107)) (((sI τ_107 10 (ix (nI i_107)) ((τ_107.1 10 (ix (nI i_107))) + (if (τ_107.1 8 (ix (nI i_107))) = (-1) then (if (τ_107.1 9 (ix (nI i_107))) = 0 then 1 else 0) else 0))).1 11 (ix (nI i_107))) + (if ((sI τ_107 10 (ix (nI i_107)) ((τ_107.1 10 (ix (nI i_107))) + (if (τ_107.1 8 (ix (nI i_107))) = (-1) then (if (τ_107.1 9 (ix (nI i_107))) = 0 then 1 else 0) else 0))).1 8 (ix (nI i_107))) = (-1) then (if ((sI τ_107 10 (ix (nI i_107)) ((τ_107.1 10 (ix (nI i_107))) + (if (τ_107.1 8 (ix (nI i_107))) = (-1) then (if (τ_107.1 9 (ix (nI i_107))) = 0 then 1 else 0) else 0))).1 9 (ix (nI i_107))) = 0 then 0 else 1) else 0))).2.1 7 (ix (nI i_107))) else (if (lg_cmp ((sI (sI τ_107 10 (ix (nI i_107)) ((τ_107.1 10 (ix (nI i_107))) + (if (τ_107.1 8 (ix (nI i_107))) = (-1) then (if (τ_107.1 9 (ix (nI i_107))) = 0 then 1 else 0) else 0))) 11 (ix (nI i_107)) (((sI τ_107 10 (ix (nI i_107)) ((τ_107.1 10 (ix (nI i_107))) + (if (τ_107.1 8 (ix (nI i_107))) = (-1) then (if (τ_107.1 9 (ix (nI i_107))) = 0 then 1 else 0) else 0))).1 11 (ix (nI i_107))) + (if ((sI τ_107 10 (ix (nI i_107)) ((τ_107.1 10 (ix (nI i_107))) + (if (τ_107.1 8 (ix (nI i_107))) = (-1) then (if (τ_107.1 9 (ix (nI i_107))) = 0 then 1 else 0) else 0))).1 8 (ix (nI i_107))) = (-1) then (if ((sI τ_107 10 (ix (nI i_107)) ((τ_107.1 10 (ix (nI i_107))) + (if (τ_107.1 8 (ix (nI i_107))) = (-1) then (if (τ_107.1 9 (ix (nI i_107))) = 0 then 1 else 0) else 0))).1 9 (ix (nI i_107))) = 0 then 0 else 1) else 0))).2.1 4 (ix (lp (F_X1_tickOne_188 T C i_107 τ_107) T 0 (-1)))) ((sI (sI τ_107 10 (ix (nI i_107)) ((τ_107.1 10 (ix (nI i_107))) + (if (τ_107.1 8 (ix (nI i_107))) = (-1) then (if (τ_107.1 9 (ix (nI i_107))) = 0 then 1 else 0) else 0))) 11 (ix (nI i_107)) (((sI τ_107 10 (ix (nI i_107)) ((τ_107.1 10 (ix (nI i_107))) + (if (τ_107.1 8 (ix (nI i_107))) = (-1) then (if (τ_107.1 9 (ix (nI i_107))) = 0 then 1 else 0) else 0))).1 11 (ix (nI i_107))) + (if ((sI τ_107 10 (ix (nI i_107)) ((τ_107.1 10 (ix (nI i_107))) + (if (τ_107.1 8 (ix (nI i_107))) = (-1) then (if (τ_107.1 9 (ix (nI i_107))) = 0 then 1 else 0) else 0))).1 8 (ix (nI i_107))) = (-1) then (if ((sI τ_107 10 (ix (nI i_107)) ((τ_107.1 10 (ix (nI i_107))) + (if (τ_107.1 8 (ix (nI i_107))) = (-1) then (if (τ_107.1 9 (ix (nI i_107))) = 0 then 1 else 0) else 0))).1 9 (ix (nI i_107))) = 0 then 0 else 1) else 0))).2.1 7 (ix (nI i_107)))) ≤ 0 then ((sI (sI τ_107 10 (ix (nI i_107)) ((τ_107.1 10 (ix (nI i_107))) + (if (τ_107.1 8 (ix (nI i_107))) = (-1) then (if (τ_107.1 9 (ix (nI i_107))) = 0 then 1 else 0) else 0))) 11 (ix (nI i_107)) (((sI τ_107 10 (ix (nI i_107)) ((τ_107.1 10 (ix (nI i_107))) + (if (τ_107.1 8 (ix (nI i_107))) = (-1) then (if (τ_107.1 9 (ix (nI i_107))) = 0 then 1 else 0) else 0))).1 11 (ix (nI i_107))) + (if ((sI τ_107 10 (ix (nI i_107)) ((τ_107.1 10 (ix (nI i_107))) + (if (τ_107.1 8 (ix (nI i_107))) = (-1) then (if (τ_107.1 9 (ix (nI i_107))) = 0 then 1 else 0) else 0))).1 8 (ix (nI i_107))) = (-1) then (if ((sI τ_107 10 (ix (nI i_107)) ((τ_107.1 10 (ix (nI i_107))) + (if (τ_107.1 8 (ix (nI i_107))) = (-1) then (if (τ_107.1 9 (ix (nI i_107))) = 0 then 1 else 0) else 0))).1 9 (ix (nI i_107))) = 0 then 0 else 1) else 0))).2.1 7 (ix (nI i_107))) else ((sI (sI τ_107 10 (ix (nI i_107)) ((τ_107.1 10 (ix (nI i_107))) + (if (τ_107.1 8 (ix (nI i_107))) = (-1) then (if (τ_107.1 9 (ix (nI i_107))) = 0 then 1 else 0) else 0))) 11 (ix (nI i_107)) (((sI τ_107 10 (ix (nI i_107)) ((τ_107.1 10 (ix (nI i_107))) + (if (τ_107.1 8 (ix (nI i_107))) = (-1) then (if (τ_107.1 9 (ix (nI i_107))) = 0 then 1 else 0) else 0))).1 11 (ix (nI i_107))) + (if ((sI τ_107 10 (ix (nI i_107)) ((τ_107.1 10 (ix (nI i_107))) + (if (τ_107.1 8 (ix (nI i_107))) = (-1) then (if (τ_107.1 9 (ix (nI i_107))) = 0 then 1 else 0) else 0))).1 8 (ix (nI i_107))) = (-1) then (if ((sI τ_107 10 (ix (nI i_107)) ((τ_107.1 10 (ix (nI i_107))) + (if (τ_107.1 8 (ix (nI i_107))) = (-1) then (if (τ_107.1 9 (ix (nI i_107))) = 0 then 1 else 0) else 0))).1 9 (ix (nI i_107))) = 0 then 0 else 1) else 0))).2.1 4 (ix (lp (F_X1_tickOne_188 T C i_107 τ_107) T 0 (-1))))))) := inv_sJ hI
                        refine lv_iinc (v := (nI (i_107 + 1))) (lv' := [(2, .int (nI (i_107 + 1))), (3, .int (lp (F_X1_tickOne_188 T C i_107 τ_107) T 0 (-1))), (1, .int ((lp F_X1_tickOne_25 T 0 (0, (lp (F_X1_tickOne_2 T C) C 0 σ))).1)), (0, .ref (q 0))]) hx hb dX1_tickOne_294 hl (k := 1) rfl (nI_1 _) (by decide) rfl (fun ls hl => ?_)
                        refine lv_goto (tgt := 107) hx hb dX1_tickOne_297 (by decide) ?_
                        exact ih_107 (i_107 + 1) (sJ (sI (sI τ_107 10 (ix (nI i_107)) ((τ_107.1 10 (ix (nI i_107))) + (if (τ_107.1 8 (ix (nI i_107))) = (-1) then (if (τ_107.1 9 (ix (nI i_107))) = 0 then 1 else 0) else 0))) 11 (ix (nI i_107)) (((sI τ_107 10 (ix (nI i_107)) ((τ_107.1 10 (ix (nI i_107))) + (if (τ_107.1 8 (ix (nI i_107))) = (-1) then (if (τ_107.1 9 (ix (nI i_107))) = 0 then 1 else 0) else 0))).1 11 (ix (nI i_107))) + (if ((sI τ_107 10 (ix (nI i_107)) ((τ_107.1 10 (ix (nI i_107))) + (if (τ_107.1 8 (ix (nI i_107))) = (-1) then (if (τ_107.1 9 (ix (nI i_107))) = 0 then 1 else 0) else 0))).1 8 (ix (nI i_107))) = (-1) then (if ((sI τ_107 10 (ix (nI i_107)) ((τ_107.1 10 (ix (nI i_107))) + (if (τ_107.1 8 (ix (nI i_107))) = (-1) then (if (τ_107.1 9 (ix (nI i_107))) = 0 then 1 else 0) else 0))).1 9 (ix (nI i_107))) = 0 then 0 else 1) else 0))) 7 (ix (nI i_107)) (if (lp (F_X1_tickOne_188 T C i_107 τ_107) T 0 (-1)) = (-1) then ((sI (sI τ_107 10 (ix (nI i_107)) ((τ_107.1 10 (ix (nI i_107))) + (if (τ_107.1 8 (ix (nI i_107))) = (-1) then (if (τ_107.1 9 (ix (nI i_107))) = 0 then 1 else 0) else 0))) 11 (ix (nI i_107)) (((sI τ_107 10 (ix (nI i_107)) ((τ_107.1 10 (ix (nI i_107))) + (if (τ_107.1 8 (ix (nI i_107))) = (-1) then (if (τ_107.1 9 (ix (nI i_107))) = 0 then 1 else 0) else 0))).1 11 (ix (nI i_107))) + (if ((sI τ_107 10 (ix (nI i_107)) ((τ_107.1 10 (ix (nI i_107))) + (if (τ_107.1 8 (ix (nI i_107))) = (-1) then (if (τ_107.1 9 (ix (nI i_107))) = 0 then 1 else 0) else 0))).1 8 (ix (nI i_107))) = (-1) then (if ((sI τ_107 10 (ix (nI i_107)) ((τ_107.1 10 (ix (nI i_107))) + (if (τ_107.1 8 (ix (nI i_107))) = (-1) then (if (τ_107.1 9 (ix (nI i_107))) = 0 then 1 else 0) else 0))).1 9 (ix (nI i_107))) = 0 then 0 else 1) else 0))).2.1 7 (ix (nI i_107))) else (if (lg_cmp ((sI (sI τ_107 10 (ix (nI i_107)) ((τ_107.1 10 (ix (nI i_107))) + (if (τ_107.1 8 (ix (nI i_107))) = (-1) then (if (τ_107.1 9 (ix (nI i_107))) = 0 then 1 else 0) else 0))) 11 (ix (nI i_107)) (((sI τ_107 10 (ix (nI i_107)) ((τ_107.1 10 (ix (nI i_107))) + (if (τ_107.1 8 (ix (nI i_107))) = (-1) then (if (τ_107.1 9 (ix (nI i_107))) = 0 then 1 else 0) else 0))).1 11 (ix (nI i_107))) + (if ((sI τ_107 10 (ix (nI i_107)) ((τ_107.1 10 (ix (nI i_107))) + (if (τ_107.1 8 (ix (nI i_107))) = (-1) then (if (τ_107.1 9 (ix (nI i_107))) = 0 then 1 else 0) else 0))).1 8 (ix (nI i_107))) = (-1) then (if ((sI τ_107 10 (ix (nI i_107)) ((τ_107.1 10 (ix (nI i_107))) + (if (τ_107.1 8 (ix (nI i_107))) = (-1) then (if (τ_107.1 9 (ix (nI i_107))) = 0 then 1 else 0) else 0))).1 9 (ix (nI i_107))) = 0 then 0 else 1) else 0))).2.1 4 (ix (lp (F_X1_tickOne_188 T C i_107 τ_107) T 0 (-1)))) ((sI (sI τ_107 10 (ix (nI i_107)) ((τ_107.1 10 (ix (nI i_107))) + (if (τ_107.1 8 (ix (nI i_107))) = (-1) then (if (τ_107.1 9 (ix (nI i_107))) = 0 then 1 else 0) else 0))) 11 (ix (nI i_107)) (((sI τ_107 10 (ix (nI i_107)) ((τ_107.1 10 (ix (nI i_107))) + (if (τ_107.1 8 (ix (nI i_107))) = (-1) then (if (τ_107.1 9 (ix (nI i_107))) = 0 then 1 else 0) else 0))).1 11 (ix (nI i_107))) + (if ((sI τ_107 10 (ix (nI i_107)) ((τ_107.1 10 (ix (nI i_107))) + (if (τ_107.1 8 (ix (nI i_107))) = (-1) then (if (τ_107.1 9 (ix (nI i_107))) = 0 then 1 else 0) else 0))).1 8 (ix (nI i_107))) = (-1) then (if ((sI τ_107 10 (ix (nI i_107)) ((τ_107.1 10 (ix (nI i_107))) + (if (τ_107.1 8 (ix (nI i_107))) = (-1) then (if (τ_107.1 9 (ix (nI i_107))) = 0 then 1 else 0) else 0))).1 9 (ix (nI i_107))) = 0 then 0 else 1) else 0))).2.1 7 (ix (nI i_107)))) ≤ 0 then ((sI (sI τ_107 10 (ix (nI i_107)) ((τ_107.1 10 (ix (nI i_107))) + (if (τ_107.1 8 (ix (nI i_107))) = (-1) then (if (τ_107.1 9 (ix (nI i_107))) = 0 then 1 else 0) else 0))) 11 (ix (nI i_107)) (((sI τ_107 10 (ix (nI i_107)) ((τ_107.1 10 (ix (nI i_107))) + (if (τ_107.1 8 (ix (nI i_107))) = (-1) then (if (τ_107.1 9 (ix (nI i_107))) = 0 then 1 else 0) else 0))).1 11 (ix (nI i_107))) + (if ((sI τ_107 10 (ix (nI i_107)) ((τ_107.1 10 (ix (nI i_107))) + (if (τ_107.1 8 (ix (nI i_107))) = (-1) then (if (τ_107.1 9 (ix (nI i_107))) = 0 then 1 else 0) else 0))).1 8 (ix (nI i_107))) = (-1) then (if ((sI τ_107 10 (ix (nI i_107)) ((τ_107.1 10 (ix (nI i_107))) + (if (τ_107.1 8 (ix (nI i_107))) = (-1) then (if (τ_107.1 9 (ix (nI i_107))) = 0 then 1 else 0) else 0))).1 9 (ix (nI i_107))) = 0 then 0 else 1) else 0))).2.1 7 (ix (nI i_107))) else ((sI (sI τ_107 10 (ix (nI i_107)) ((τ_107.1 10 (ix (nI i_107))) + (if (τ_107.1 8 (ix (nI i_107))) = (-1) then (if (τ_107.1 9 (ix (nI i_107))) = 0 then 1 else 0) else 0))) 11 (ix (nI i_107)) (((sI τ_107 10 (ix (nI i_107)) ((τ_107.1 10 (ix (nI i_107))) + (if (τ_107.1 8 (ix (nI i_107))) = (-1) then (if (τ_107.1 9 (ix (nI i_107))) = 0 then 1 else 0) else 0))).1 11 (ix (nI i_107))) + (if ((sI τ_107 10 (ix (nI i_107)) ((τ_107.1 10 (ix (nI i_107))) + (if (τ_107.1 8 (ix (nI i_107))) = (-1) then (if (τ_107.1 9 (ix (nI i_107))) = 0 then 1 else 0) else 0))).1 8 (ix (nI i_107))) = (-1) then (if ((sI τ_107 10 (ix (nI i_107)) ((τ_107.1 10 (ix (nI i_107))) + (if (τ_107.1 8 (ix (nI i_107))) = (-1) then (if (τ_107.1 9 (ix (nI i_107))) = 0 then 1 else 0) else 0))).1 9 (ix (nI i_107))) = 0 then 0 else 1) else 0))).2.1 4 (ix (lp (F_X1_tickOne_188 T C i_107 τ_107) T 0 (-1))))))) ls H locs (by omega) hres_107 (Eq.subst (motive := fun z => Inv T C z) (show (sJ (sI (sI τ_107 10 (ix (nI i_107)) ((τ_107.1 10 (ix (nI i_107))) + (if (τ_107.1 8 (ix (nI i_107))) = (-1) then (if (τ_107.1 9 (ix (nI i_107))) = 0 then 1 else 0) else 0))) 11 (ix (nI i_107)) (((sI τ_107 10 (ix (nI i_107)) ((τ_107.1 10 (ix (nI i_107))) + (if (τ_107.1 8 (ix (nI i_107))) = (-1) then (if (τ_107.1 9 (ix (nI i_107))) = 0 then 1 else 0) else 0))).1 11 (ix (nI i_107))) + (if ((sI τ_107 10 (ix (nI i_107)) ((τ_107.1 10 (ix (nI i_107))) + (if (τ_107.1 8 (ix (nI i_107))) = (-1) then (if (τ_107.1 9 (ix (nI i_107))) = 0 then 1 else 0) else 0))).1 8 (ix (nI i_107))) = (-1) then (if ((sI τ_107 10 (ix (nI i_107)) ((τ_107.1 10 (ix (nI i_107))) + (if (τ_107.1 8 (ix (nI i_107))) = (-1) then (if (τ_107.1 9 (ix (nI i_107))) = 0 then 1 else 0) else 0))).1 9 (ix (nI i_107))) = 0 then 0 else 1) else 0))) 7 (ix (nI i_107)) (if (lp (F_X1_tickOne_188 T C i_107 τ_107) T 0 (-1)) = (-1) then ((sI (sI τ_107 10 (ix (nI i_107)) ((τ_107.1 10 (ix (nI i_107))) + (if (τ_107.1 8 (ix (nI i_107))) = (-1) then (if (τ_107.1 9 (ix (nI i_107))) = 0 then 1 else 0) else 0))) 11 (ix (nI i_107)) (((sI τ_107 10 (ix (nI i_107)) ((τ_107.1 10 (ix (nI i_107))) + (if (τ_107.1 8 (ix (nI i_107))) = (-1) then (if (τ_107.1 9 (ix (nI i_107))) = 0 then 1 else 0) else 0))).1 11 (ix (nI i_107))) + (if ((sI τ_107 10 (ix (nI i_107)) ((τ_107.1 10 (ix (nI i_107))) + (if (τ_107.1 8 (ix (nI i_107))) = (-1) then (if (τ_107.1 9 (ix (nI i_107))) = 0 then 1 else 0) else 0))).1 8 (ix (nI i_107))) = (-1) then (if ((sI τ_107 10 (ix (nI i_107)) ((τ_107.1 10 (ix (nI i_107))) + (if (τ_107.1 8 (ix (nI i_107))) = (-1) then (if (τ_107.1 9 (ix (nI i_107))) = 0 then 1 else 0) else 0))).1 9 (ix (nI i_107))) = 0 then 0 else 1) else 0))).2.1 7 (ix (nI i_107))) else (if (lg_cmp ((sI (sI τ_107 10 (ix (nI i_107)) ((τ_107.1 10 (ix (nI i_107))) + (if (τ_107.1 8 (ix (nI i_107))) = (-1) then (if (τ_107.1 9 (ix (nI i_107))) = 0 then 1 else 0) else 0))) 11 (ix (nI i_107)) (((sI τ_107 10 (ix (nI i_107)) ((τ_107.1 10 (ix (nI i_107))) + (if (τ_107.1 8 (ix (nI i_107))) = (-1) then (if (τ_107.1 9 (ix (nI i_107))) = 0 then 1 else 0) else 0))).1 11 (ix (nI i_107))) + (if ((sI τ_107 10 (ix (nI i_107)) ((τ_107.1 10 (ix (nI i_107))) + (if (τ_107.1 8 (ix (nI i_107))) = (-1) then (if (τ_107.1 9 (ix (nI i_107))) = 0 then 1 else 0) else 0))).1 8 (ix (nI i_107))) = (-1) then (if ((sI τ_107 10 (ix (nI i_107)) ((τ_107.1 10 (ix (nI i_107))) + (if (τ_107.1 8 (ix (nI i_107))) = (-1) then (if (τ_107.1 9 (ix (nI i_107))) = 0 then 1 else 0) else 0))).1 9 (ix (nI i_107))) = 0 then 0 else 1) else 0))).2.1 4 (ix (lp (F_X1_tickOne_188 T C i_107 τ_107) T 0 (-1)))) ((sI (sI τ_107 10 (ix (nI i_107)) ((τ_107.1 10 (ix (nI i_107))) + (if (τ_107.1 8 (ix (nI i_107))) = (-1) then (if (τ_107.1 9 (ix (nI i_107))) = 0 then 1 else 0) else 0))) 11 (ix (nI i_107)) (((sI τ_107 10 (ix (nI i_107)) ((τ_107.1 10 (ix (nI i_107))) + (if (τ_107.1 8 (ix (nI i_107))) = (-1) then (if (τ_107.1 9 (ix (nI i_107))) = 0 then 1 else 0) else 0))).1 11 (ix (nI i_107))) + (if ((sI τ_107 10 (ix (nI i_107)) ((τ_107.1 10 (ix (nI i_107))) + (if (τ_107.1 8 (ix (nI i_107))) = (-1) then (if (τ_107.1 9 (ix (nI i_107))) = 0 then 1 else 0) else 0))).1 8 (ix (nI i_107))) = (-1) then (if ((sI τ_107 10 (ix (nI i_107)) ((τ_107.1 10 (ix (nI i_107))) + (if (τ_107.1 8 (ix (nI i_107))) = (-1) then (if (τ_107.1 9 (ix (nI i_107))) = 0 then 1 else 0) else 0))).1 9 (ix (nI i_107))) = 0 then 0 else 1) else 0))).2.1 7 (ix (nI i_107)))) ≤ 0 then ((sI (sI τ_107 10 (ix (nI i_107)) ((τ_107.1 10 (ix (nI i_107))) + (if (τ_107.1 8 (ix (nI i_107))) = (-1) then (if (τ_107.1 9 (ix (nI i_107))) = 0 then 1 else 0) else 0))) 11 (ix (nI i_107)) (((sI τ_107 10 (ix (nI i_107)) ((τ_107.1 10 (ix (nI i_107))) + (if (τ_107.1 8 (ix (nI i_107))) = (-1) then (if (τ_107.1 9 (ix (nI i_107))) = 0 then 1 else 0) else 0))).1 11 (ix (nI i_107))) + (if ((sI τ_107 10 (ix (nI i_107)) ((τ_107.1 10 (ix (nI i_107))) + (if (τ_107.1 8 (ix (nI i_107))) = (-1) then (if (τ_107.1 9 (ix (nI i_107))) = 0 then 1 else 0) else 0))).1 8 (ix (nI i_107))) = (-1) then (if ((sI τ_107 10 (ix (nI i_107)) ((τ_107.1 10 (ix (nI i_107))) + (if (τ_107.1 8 (ix (nI i_107))) = (-1) then (if (τ_107.1 9 (ix (nI i_107))) = 0 then 1 else 0) else 0))).1 9 (ix (nI i_107))) = 0 then 0 else 1) else 0))).2.1 7 (ix (nI i_107))) else ((sI (sI τ_107 10 (ix (nI i_107)) ((τ_107.1 10 (ix (nI i_107))) + (if (τ_107.1 8 (ix (nI i_107))) = (-1) then (if (τ_107.1 9 (ix (nI i_107))) = 0 then 1 else 0) else 0))) 11 (ix (nI i_107)) (((sI τ_107 10 (ix (nI i_107)) ((τ_107.1 10 (ix (nI i_107))) + (if (τ_107.1 8 (ix (nI i_107))) = (-1) then (if (τ_107.1 9 (ix (nI i_107))) = 0 then 1 else 0) else 0))).1 11 (ix (nI i_107))) + (if ((sI τ_107 10 (ix (nI i_107)) ((τ_107.1 10 (ix (nI i_107))) + (if (τ_107.1 8 (ix (nI i_107))) = (-1) then (if (τ_107.1 9 (ix (nI i_107))) = 0 then 1 else 0) else 0))).1 8 (ix (nI i_107))) = (-1) then (if ((sI τ_107 10 (ix (nI i_107)) ((τ_107.1 10 (ix (nI i_107))) + (if (τ_107.1 8 (ix (nI i_107))) = (-1) then (if (τ_107.1 9 (ix (nI i_107))) = 0 then 1 else 0) else 0))).1 9 (ix (nI i_107))) = 0 then 0 else 1) else 0))).2.1 4 (ix (lp (F_X1_tickOne_188 T C i_107 τ_107) T 0 (-1))))))) = (sJ (sI (sI τ_107 10 (ix (nI i_107)) ((τ_107.1 10 (ix (nI i_107))) + (if (τ_107.1 8 (ix (nI i_107))) = (-1) then (if (τ_107.1 9 (ix (nI i_107))) = 0 then 1 else 0) else 0))) 11 (ix (nI i_107)) (((sI τ_107 10 (ix (nI i_107)) ((τ_107.1 10 (ix (nI i_107))) + (if (τ_107.1 8 (ix (nI i_107))) = (-1) then (if (τ_107.1 9 (ix (nI i_107))) = 0 then 1 else 0) else 0))).1 11 (ix (nI i_107))) + (if ((sI τ_107 10 (ix (nI i_107)) ((τ_107.1 10 (ix (nI i_107))) + (if (τ_107.1 8 (ix (nI i_107))) = (-1) then (if (τ_107.1 9 (ix (nI i_107))) = 0 then 1 else 0) else 0))).1 8 (ix (nI i_107))) = (-1) then (if ((sI τ_107 10 (ix (nI i_107)) ((τ_107.1 10 (ix (nI i_107))) + (if (τ_107.1 8 (ix (nI i_107))) = (-1) then (if (τ_107.1 9 (ix (nI i_107))) = 0 then 1 else 0) else 0))).1 9 (ix (nI i_107))) = 0 then 0 else 1) else 0))) 7 (ix (nI i_107)) (if (lp (F_X1_tickOne_188 T C i_107 τ_107) T 0 (-1)) = (-1) then ((sI (sI τ_107 10 (ix (nI i_107)) ((τ_107.1 10 (ix (nI i_107))) + (if (τ_107.1 8 (ix (nI i_107))) = (-1) then (if (τ_107.1 9 (ix (nI i_107))) = 0 then 1 else 0) else 0))) 11 (ix (nI i_107)) (((sI τ_107 10 (ix (nI i_107)) ((τ_107.1 10 (ix (nI i_107))) + (if (τ_107.1 8 (ix (nI i_107))) = (-1) then (if (τ_107.1 9 (ix (nI i_107))) = 0 then 1 else 0) else 0))).1 11 (ix (nI i_107))) + (if ((sI τ_107 10 (ix (nI i_107)) ((τ_107.1 10 (ix (nI i_107))) + (if (τ_107.1 8 (ix (nI i_107))) = (-1) then (if (τ_107.1 9 (ix (nI i_107))) = 0 then 1 else 0) else 0))).1 8 (ix (nI i_107))) = (-1) then (if ((sI τ_107 10 (ix (nI i_107)) ((τ_107.1 10 (ix (nI i_107))) + (if (τ_107.1 8 (ix (nI i_107))) = (-1) then (if (τ_107.1 9 (ix (nI i_107))) = 0 then 1 else 0) else 0))).1 9 (ix (nI i_107))) = 0 then 0 else 1) else 0))).2.1 7 (ix (nI i_107))) else (if (lg_cmp ((sI (sI τ_107 10 (ix (nI i_107)) ((τ_107.1 10 (ix (nI i_107))) + (if (τ_107.1 8 (ix (nI i_107))) = (-1) then (if (τ_107.1 9 (ix (nI i_107))) = 0 then 1 else 0) else 0))) 11 (ix (nI i_107)) (((sI τ_107 10 (ix (nI i_107)) ((τ_107.1 10 (ix (nI i_107))) + (if (τ_107.1 8 (ix (nI i_107))) = (-1) then (if (τ_107.1 9 (ix (nI i_107))) = 0 then 1 else 0) else 0))).1 11 (ix (nI i_107))) + (if ((sI τ_107 10 (ix (nI i_107)) ((τ_107.1 10 (ix (nI i_107))) + (if (τ_107.1 8 (ix (nI i_107))) = (-1) then (if (τ_107.1 9 (ix (nI i_107))) = 0 then 1 else 0) else 0))).1 8 (ix (nI i_107))) = (-1) then (if ((sI τ_107 10 (ix (nI i_107)) ((τ_107.1 10 (ix (nI i_107))) + (if (τ_107.1 8 (ix (nI i_107))) = (-1) then (if (τ_107.1 9 (ix (nI i_107))) = 0 then 1 else 0) else 0))).1 9 (ix (nI i_107))) = 0 then 0 else 1) else 0))).2.1 4 (ix (lp (F_X1_tickOne_188 T C i_107 τ_107) T 0 (-1)))) ((sI (sI τ_107 10 (ix (nI i_107)) ((τ_107.1 10 (ix (nI i_107))) + (if (τ_107.1 8 (ix (nI i_107))) = (-1) then (if (τ_107.1 9 (ix (nI i_107))) = 0 then 1 else 0) else 0))) 11 (ix (nI i_107)) (((sI τ_107 10 (ix (nI i_107)) ((τ_107.1 10 (ix (nI i_107))) + (if (τ_107.1 8 (ix (nI i_107))) = (-1) then (if (τ_107.1 9 (ix (nI i_107))) = 0 then 1 else 0) else 0))).1 11 (ix (nI i_107))) + (if ((sI τ_107 10 (ix (nI i_107)) ((τ_107.1 10 (ix (nI i_107))) + (if (τ_107.1 8 (ix (nI i_107))) = (-1) then (if (τ_107.1 9 (ix (nI i_107))) = 0 then 1 else 0) else 0))).1 8 (ix (nI i_107))) = (-1) then (if ((sI τ_107 10 (ix (nI i_107)) ((τ_107.1 10 (ix (nI i_107))) + (if (τ_107.1 8 (ix (nI i_107))) = (-1) then (if (τ_107.1 9 (ix (nI i_107))) = 0 then 1 else 0) else 0))).1 9 (ix (nI i_107))) = 0 then 0 else 1) else 0))).2.1 7 (ix (nI i_107)))) ≤ 0 then ((sI (sI τ_107 10 (ix (nI i_107)) ((τ_107.1 10 (ix (nI i_107))) + (if (τ_107.1 8 (ix (nI i_107))) = (-1) then (if (τ_107.1 9 (ix (nI i_107))) = 0 then 1 else 0) else 0))) 11 (ix (nI i_107)) (((sI τ_107 10 (ix (nI i_107)) ((τ_107.1 10 (ix (nI i_107))) + (if (τ_107.1 8 (ix (nI i_107))) = (-1) then (if (τ_107.1 9 (ix (nI i_107))) = 0 then 1 else 0) else 0))).1 11 (ix (nI i_107))) + (if ((sI τ_107 10 (ix (nI i_107)) ((τ_107.1 10 (ix (nI i_107))) + (if (τ_107.1 8 (ix (nI i_107))) = (-1) then (if (τ_107.1 9 (ix (nI i_107))) = 0 then 1 else 0) else 0))).1 8 (ix (nI i_107))) = (-1) then (if ((sI τ_107 10 (ix (nI i_107)) ((τ_107.1 10 (ix (nI i_107))) + (if (τ_107.1 8 (ix (nI i_107))) = (-1) then (if (τ_107.1 9 (ix (nI i_107))) = 0 then 1 else 0) else 0))).1 9 (ix (nI i_107))) = 0 then 0 else 1) else 0))).2.1 7 (ix (nI i_107))) else ((sI (sI τ_107 10 (ix (nI i_107)) ((τ_107.1 10 (ix (nI i_107))) + (if (τ_107.1 8 (ix (nI i_107))) = (-1) then (if (τ_107.1 9 (ix (nI i_107))) = 0 then 1 else 0) else 0))) 11 (ix (nI i_107)) (((sI τ_107 10 (ix (nI i_107)) ((τ_107.1 10 (ix (nI i_107))) + (if (τ_107.1 8 (ix (nI i_107))) = (-1) then (if (τ_107.1 9 (ix (nI i_107))) = 0 then 1 else 0) else 0))).1 11 (ix (nI i_107))) + (if ((sI τ_107 10 (ix (nI i_107)) ((τ_107.1 10 (ix (nI i_107))) + (if (τ_107.1 8 (ix (nI i_107))) = (-1) then (if (τ_107.1 9 (ix (nI i_107))) = 0 then 1 else 0) else 0))).1 8 (ix (nI i_107))) = (-1) then (if ((sI τ_107 10 (ix (nI i_107)) ((τ_107.1 10 (ix (nI i_107))) + (if (τ_107.1 8 (ix (nI i_107))) = (-1) then (if (τ_107.1 9 (ix (nI i_107))) = 0 then 1 else 0) else 0))).1 9 (ix (nI i_107))) = 0 then 0 else 1) else 0))).2.1 4 (ix (lp (F_X1_tickOne_188 T C i_107 τ_107) T 0 (-1))))))) from rfl) hI) (lv_sub (l' := [(2, .int (nI (i_107 + 1))), (1, .int ((lp F_X1_tickOne_25 T 0 (0, (lp (F_X1_tickOne_2 T C) C 0 σ))).1)), (0, .ref (q 0))]) hl [0, 2, 3] rfl) (Eq.subst (motive := fun z => PP 1 E q z H) (show (sJ (sI (sI τ_107 10 (ix (nI i_107)) ((τ_107.1 10 (ix (nI i_107))) + (if (τ_107.1 8 (ix (nI i_107))) = (-1) then (if (τ_107.1 9 (ix (nI i_107))) = 0 then 1 else 0) else 0))) 11 (ix (nI i_107)) (((sI τ_107 10 (ix (nI i_107)) ((τ_107.1 10 (ix (nI i_107))) + (if (τ_107.1 8 (ix (nI i_107))) = (-1) then (if (τ_107.1 9 (ix (nI i_107))) = 0 then 1 else 0) else 0))).1 11 (ix (nI i_107))) + (if ((sI τ_107 10 (ix (nI i_107)) ((τ_107.1 10 (ix (nI i_107))) + (if (τ_107.1 8 (ix (nI i_107))) = (-1) then (if (τ_107.1 9 (ix (nI i_107))) = 0 then 1 else 0) else 0))).1 8 (ix (nI i_107))) = (-1) then (if ((sI τ_107 10 (ix (nI i_107)) ((τ_107.1 10 (ix (nI i_107))) + (if (τ_107.1 8 (ix (nI i_107))) = (-1) then (if (τ_107.1 9 (ix (nI i_107))) = 0 then 1 else 0) else 0))).1 9 (ix (nI i_107))) = 0 then 0 else 1) else 0))) 7 (ix (nI i_107)) (if (lp (F_X1_tickOne_188 T C i_107 τ_107) T 0 (-1)) = (-1) then ((sI (sI τ_107 10 (ix (nI i_107)) ((τ_107.1 10 (ix (nI i_107))) + (if (τ_107.1 8 (ix (nI i_107))) = (-1) then (if (τ_107.1 9 (ix (nI i_107))) = 0 then 1 else 0) else 0))) 11 (ix (nI i_107)) (((sI τ_107 10 (ix (nI i_107)) ((τ_107.1 10 (ix (nI i_107))) + (if (τ_107.1 8 (ix (nI i_107))) = (-1) then (if (τ_107.1 9 (ix (nI i_107))) = 0 then 1 else 0) else 0))).1 11 (ix (nI i_107))) + (if ((sI τ_107 10 (ix (nI i_107)) ((τ_107.1 10 (ix (nI i_107))) + (if (τ_107.1 8 (ix (nI i_107))) = (-1) then (if (τ_107.1 9 (ix (nI i_107))) = 0 then 1 else 0) else 0))).1 8 (ix (nI i_107))) = (-1) then (if ((sI τ_107 10 (ix (nI i_107)) ((τ_107.1 10 (ix (nI i_107))) + (if (τ_107.1 8 (ix (nI i_107))) = (-1) then (if (τ_107.1 9 (ix (nI i_107))) = 0 then 1 else 0) else 0))).1 9 (ix (nI i_107))) = 0 then 0 else 1) else 0))).2.1 7 (ix (nI i_107))) else (if (lg_cmp ((sI (sI τ_107 10 (ix (nI i_107)) ((τ_107.1 10 (ix (nI i_107))) + (if (τ_107.1 8 (ix (nI i_107))) = (-1) then (if (τ_107.1 9 (ix (nI i_107))) = 0 then 1 else 0) else 0))) 11 (ix (nI i_107)) (((sI τ_107 10 (ix (nI i_107)) ((τ_107.1 10 (ix (nI i_107))) + (if (τ_107.1 8 (ix (nI i_107))) = (-1) then (if (τ_107.1 9 (ix (nI i_107))) = 0 then 1 else 0) else 0))).1 11 (ix (nI i_107))) + (if ((sI τ_107 10 (ix (nI i_107)) ((τ_107.1 10 (ix (nI i_107))) + (if (τ_107.1 8 (ix (nI i_107))) = (-1) then (if (τ_107.1 9 (ix (nI i_107))) = 0 then 1 else 0) else 0))).1 8 (ix (nI i_107))) = (-1) then (if ((sI τ_107 10 (ix (nI i_107)) ((τ_107.1 10 (ix (nI i_107))) + (if (τ_107.1 8 (ix (nI i_107))) = (-1) then (if (τ_107.1 9 (ix (nI i_107))) = 0 then 1 else 0) else 0))).1 9 (ix (nI i_107))) = 0 then 0 else 1) else 0))).2.1 4 (ix (lp (F_X1_tickOne_188 T C i_107 τ_107) T 0 (-1)))) ((sI (sI τ_107 10 (ix (nI i_107)) ((τ_107.1 10 (ix (nI i_107))) + (if (τ_107.1 8 (ix (nI i_107))) = (-1) then (if (τ_107.1 9 (ix (nI i_107))) = 0 then 1 else 0) else 0))) 11 (ix (nI i_107)) (((sI τ_107 10 (ix (nI i_107)) ((τ_107.1 10 (ix (nI i_107))) + (if (τ_107.1 8 (ix (nI i_107))) = (-1) then (if (τ_107.1 9 (ix (nI i_107))) = 0 then 1 else 0) else 0))).1 11 (ix (nI i_107))) + (if ((sI τ_107 10 (ix (nI i_107)) ((τ_107.1 10 (ix (nI i_107))) + (if (τ_107.1 8 (ix (nI i_107))) = (-1) then (if (τ_107.1 9 (ix (nI i_107))) = 0 then 1 else 0) else 0))).1 8 (ix (nI i_107))) = (-1) then (if ((sI τ_107 10 (ix (nI i_107)) ((τ_107.1 10 (ix (nI i_107))) + (if (τ_107.1 8 (ix (nI i_107))) = (-1) then (if (τ_107.1 9 (ix (nI i_107))) = 0 then 1 else 0) else 0))).1 9 (ix (nI i_107))) = 0 then 0 else 1) else 0))).2.1 7 (ix (nI i_107)))) ≤ 0 then ((sI (sI τ_107 10 (ix (nI i_107)) ((τ_107.1 10 (ix (nI i_107))) + (if (τ_107.1 8 (ix (nI i_107))) = (-1) then (if (τ_107.1 9 (ix (nI i_107))) = 0 then 1 else 0) else 0))) 11 (ix (nI i_107)) (((sI τ_107 10 (ix (nI i_107)) ((τ_107.1 10 (ix (nI i_107))) + (if (τ_107.1 8 (ix (nI i_107))) = (-1) then (if (τ_107.1 9 (ix (nI i_107))) = 0 then 1 else 0) else 0))).1 11 (ix (nI i_107))) + (if ((sI τ_107 10 (ix (nI i_107)) ((τ_107.1 10 (ix (nI i_107))) + (if (τ_107.1 8 (ix (nI i_107))) = (-1) then (if (τ_107.1 9 (ix (nI i_107))) = 0 then 1 else 0) else 0))).1 8 (ix (nI i_107))) = (-1) then (if ((sI τ_107 10 (ix (nI i_107)) ((τ_107.1 10 (ix (nI i_107))) + (if (τ_107.1 8 (ix (nI i_107))) = (-1) then (if (τ_107.1 9 (ix (nI i_107))) = 0 then 1 else 0) else 0))).1 9 (ix (nI i_107))) = 0 then 0 else 1) else 0))).2.1 7 (ix (nI i_107))) else ((sI (sI τ_107 10 (ix (nI i_107)) ((τ_107.1 10 (ix (nI i_107))) + (if (τ_107.1 8 (ix (nI i_107))) = (-1) then (if (τ_107.1 9 (ix (nI i_107))) = 0 then 1 else 0) else 0))) 11 (ix (nI i_107)) (((sI τ_107 10 (ix (nI i_107)) ((τ_107.1 10 (ix (nI i_107))) + (if (τ_107.1 8 (ix (nI i_107))) = (-1) then (if (τ_107.1 9 (ix (nI i_107))) = 0 then 1 else 0) else 0))).1 11 (ix (nI i_107))) + (if ((sI τ_107 10 (ix (nI i_107)) ((τ_107.1 10 (ix (nI i_107))) + (if (τ_107.1 8 (ix (nI i_107))) = (-1) then (if (τ_107.1 9 (ix (nI i_107))) = 0 then 1 else 0) else 0))).1 8 (ix (nI i_107))) = (-1) then (if ((sI τ_107 10 (ix (nI i_107)) ((τ_107.1 10 (ix (nI i_107))) + (if (τ_107.1 8 (ix (nI i_107))) = (-1) then (if (τ_107.1 9 (ix (nI i_107))) = 0 then 1 else 0) else 0))).1 9 (ix (nI i_107))) = 0 then 0 else 1) else 0))).2.1 4 (ix (lp (F_X1_tickOne_188 T C i_107 τ_107) T 0 (-1))))))) = (sJ (sI (sI τ_107 10 (ix (nI i_107)) ((τ_107.1 10 (ix (nI i_107))) + (if (τ_107.1 8 (ix (nI i_107))) = (-1) then (if (τ_107.1 9 (ix (nI i_107))) = 0 then 1 else 0) else 0))) 11 (ix (nI i_107)) (((sI τ_107 10 (ix (nI i_107)) ((τ_107.1 10 (ix (nI i_107))) + (if (τ_107.1 8 (ix (nI i_107))) = (-1) then (if (τ_107.1 9 (ix (nI i_107))) = 0 then 1 else 0) else 0))).1 11 (ix (nI i_107))) + (if ((sI τ_107 10 (ix (nI i_107)) ((τ_107.1 10 (ix (nI i_107))) + (if (τ_107.1 8 (ix (nI i_107))) = (-1) then (if (τ_107.1 9 (ix (nI i_107))) = 0 then 1 else 0) else 0))).1 8 (ix (nI i_107))) = (-1) then (if ((sI τ_107 10 (ix (nI i_107)) ((τ_107.1 10 (ix (nI i_107))) + (if (τ_107.1 8 (ix (nI i_107))) = (-1) then (if (τ_107.1 9 (ix (nI i_107))) = 0 then 1 else 0) else 0))).1 9 (ix (nI i_107))) = 0 then 0 else 1) else 0))) 7 (ix (nI i_107)) (if (lp (F_X1_tickOne_188 T C i_107 τ_107) T 0 (-1)) = (-1) then ((sI (sI τ_107 10 (ix (nI i_107)) ((τ_107.1 10 (ix (nI i_107))) + (if (τ_107.1 8 (ix (nI i_107))) = (-1) then (if (τ_107.1 9 (ix (nI i_107))) = 0 then 1 else 0) else 0))) 11 (ix (nI i_107)) (((sI τ_107 10 (ix (nI i_107)) ((τ_107.1 10 (ix (nI i_107))) + (if (τ_107.1 8 (ix (nI i_107))) = (-1) then (if (τ_107.1 9 (ix (nI i_107))) = 0 then 1 else 0) else 0))).1 11 (ix (nI i_107))) + (if ((sI τ_107 10 (ix (nI i_107)) ((τ_107.1 10 (ix (nI i_107))) + (if (τ_107.1 8 (ix (nI i_107))) = (-1) then (if (τ_107.1 9 (ix (nI i_107))) = 0 then 1 else 0) else 0))).1 8 (ix (nI i_107))) = (-1) then (if ((sI τ_107 10 (ix (nI i_107)) ((τ_107.1 10 (ix (nI i_107))) + (if (τ_107.1 8 (ix (nI i_107))) = (-1) then (if (τ_107.1 9 (ix (nI i_107))) = 0 then 1 else 0) else 0))).1 9 (ix (nI i_107))) = 0 then 0 else 1) else 0))).2.1 7 (ix (nI i_107))) else (if (lg_cmp ((sI (sI τ_107 10 (ix (nI i_107)) ((τ_107.1 10 (ix (nI i_107))) + (if (τ_107.1 8 (ix (nI i_107))) = (-1) then (if (τ_107.1 9 (ix (nI i_107))) = 0 then 1 else 0) else 0))) 11 (ix (nI i_107)) (((sI τ_107 10 (ix (nI i_107)) ((τ_107.1 10 (ix (nI i_107))) + (if (τ_107.1 8 (ix (nI i_107))) = (-1) then (if (τ_107.1 9 (ix (nI i_107))) = 0 then 1 else 0) else 0))).1 11 (ix (nI i_107))) + (if ((sI τ_107 10 (ix (nI i_107)) ((τ_107.1 10 (ix (nI i_107))) + (if (τ_107.1 8 (ix (nI i_107))) = (-1) then (if (τ_107.1 9 (ix (nI i_107))) = 0 then 1 else 0) else 0))).1 8 (ix (nI i_107))) = (-1) then (if ((sI τ_107 10 (ix (nI i_107)) ((τ_107.1 10 (ix (nI i_107))) + (if (τ_107.1 8 (ix (nI i_107))) = (-1) then (if (τ_107.1 9 (ix (nI i_107))) = 0 then 1 else 0) else 0))).1 9 (ix (nI i_107))) = 0 then 0 else 1) else 0))).2.1 4 (ix (lp (F_X1_tickOne_188 T C i_107 τ_107) T 0 (-1)))) ((sI (sI τ_107 10 (ix (nI i_107)) ((τ_107.1 10 (ix (nI i_107))) + (if (τ_107.1 8 (ix (nI i_107))) = (-1) then (if (τ_107.1 9 (ix (nI i_107))) = 0 then 1 else 0) else 0))) 11 (ix (nI i_107)) (((sI τ_107 10 (ix (nI i_107)) ((τ_107.1 10 (ix (nI i_107))) + (if (τ_107.1 8 (ix (nI i_107))) = (-1) then (if (τ_107.1 9 (ix (nI i_107))) = 0 then 1 else 0) else 0))).1 11 (ix (nI i_107))) + (if ((sI τ_107 10 (ix (nI i_107)) ((τ_107.1 10 (ix (nI i_107))) + (if (τ_107.1 8 (ix (nI i_107))) = (-1) then (if (τ_107.1 9 (ix (nI i_107))) = 0 then 1 else 0) else 0))).1 8 (ix (nI i_107))) = (-1) then (if ((sI τ_107 10 (ix (nI i_107)) ((τ_107.1 10 (ix (nI i_107))) + (if (τ_107.1 8 (ix (nI i_107))) = (-1) then (if (τ_107.1 9 (ix (nI i_107))) = 0 then 1 else 0) else 0))).1 9 (ix (nI i_107))) = 0 then 0 else 1) else 0))).2.1 7 (ix (nI i_107)))) ≤ 0 then ((sI (sI τ_107 10 (ix (nI i_107)) ((τ_107.1 10 (ix (nI i_107))) + (if (τ_107.1 8 (ix (nI i_107))) = (-1) then (if (τ_107.1 9 (ix (nI i_107))) = 0 then 1 else 0) else 0))) 11 (ix (nI i_107)) (((sI τ_107 10 (ix (nI i_107)) ((τ_107.1 10 (ix (nI i_107))) + (if (τ_107.1 8 (ix (nI i_107))) = (-1) then (if (τ_107.1 9 (ix (nI i_107))) = 0 then 1 else 0) else 0))).1 11 (ix (nI i_107))) + (if ((sI τ_107 10 (ix (nI i_107)) ((τ_107.1 10 (ix (nI i_107))) + (if (τ_107.1 8 (ix (nI i_107))) = (-1) then (if (τ_107.1 9 (ix (nI i_107))) = 0 then 1 else 0) else 0))).1 8 (ix (nI i_107))) = (-1) then (if ((sI τ_107 10 (ix (nI i_107)) ((τ_107.1 10 (ix (nI i_107))) + (if (τ_107.1 8 (ix (nI i_107))) = (-1) then (if (τ_107.1 9 (ix (nI i_107))) = 0 then 1 else 0) else 0))).1 9 (ix (nI i_107))) = 0 then 0 else 1) else 0))).2.1 7 (ix (nI i_107))) else ((sI (sI τ_107 10 (ix (nI i_107)) ((τ_107.1 10 (ix (nI i_107))) + (if (τ_107.1 8 (ix (nI i_107))) = (-1) then (if (τ_107.1 9 (ix (nI i_107))) = 0 then 1 else 0) else 0))) 11 (ix (nI i_107)) (((sI τ_107 10 (ix (nI i_107)) ((τ_107.1 10 (ix (nI i_107))) + (if (τ_107.1 8 (ix (nI i_107))) = (-1) then (if (τ_107.1 9 (ix (nI i_107))) = 0 then 1 else 0) else 0))).1 11 (ix (nI i_107))) + (if ((sI τ_107 10 (ix (nI i_107)) ((τ_107.1 10 (ix (nI i_107))) + (if (τ_107.1 8 (ix (nI i_107))) = (-1) then (if (τ_107.1 9 (ix (nI i_107))) = 0 then 1 else 0) else 0))).1 8 (ix (nI i_107))) = (-1) then (if ((sI τ_107 10 (ix (nI i_107)) ((τ_107.1 10 (ix (nI i_107))) + (if (τ_107.1 8 (ix (nI i_107))) = (-1) then (if (τ_107.1 9 (ix (nI i_107))) = 0 then 1 else 0) else 0))).1 9 (ix (nI i_107))) = 0 then 0 else 1) else 0))).2.1 4 (ix (lp (F_X1_tickOne_188 T C i_107 τ_107) T 0 (-1))))))) from rfl) hP) hS
                      · refine lv_icmp_eq (tgt := 287) hx hb dX1_tickOne_259 (by decide) (fun h259 => ?_) (fun h259 => ?_)
                        · skip
                          refine lv_aload_n hx hb dX1_tickOne_287 rfl (lv_at hl 3 rfl) ?_
                          refine gf_X1_13 hx hb hts hown hK hP dX1_tickOne_288 ?_
                          refine lv_iload_n hx hb dX1_tickOne_291 rfl (lv_at hl 1 rfl) ?_
                          refine ld_7 hx hb hK hP (vp_in_nI (by omega) (by decide)) dX1_tickOne_292 ?_
                          exact K259 _ _ _ _ ⟨((sI (sI τ_107 10 (ix (nI i_107)) ((τ_107.1 10 (ix (nI i_107))) + (if (τ_107.1 8 (ix (nI i_107))) = (-1) then (if (τ_107.1 9 (ix (nI i_107))) = 0 then 1 else 0) else 0))) 11 (ix (nI i_107)) (((sI τ_107 10 (ix (nI i_107)) ((τ_107.1 10 (ix (nI i_107))) + (if (τ_107.1 8 (ix (nI i_107))) = (-1) then (if (τ_107.1 9 (ix (nI i_107))) = 0 then 1 else 0) else 0))).1 11 (ix (nI i_107))) + (if ((sI τ_107 10 (ix (nI i_107)) ((τ_107.1 10 (ix (nI i_107))) + (if (τ_107.1 8 (ix (nI i_107))) = (-1) then (if (τ_107.1 9 (ix (nI i_107))) = 0 then 1 else 0) else 0))).1 8 (ix (nI i_107))) = (-1) then (if ((sI τ_107 10 (ix (nI i_107)) ((τ_107.1 10 (ix (nI i_107))) + (if (τ_107.1 8 (ix (nI i_107))) = (-1) then (if (τ_107.1 9 (ix (nI i_107))) = 0 then 1 else 0) else 0))).1 9 (ix (nI i_107))) = 0 then 0 else 1) else 0))).2.1 7 (ix (nI i_107))), (Eq.symm (if_pos h259)), rfl, lv_sub hl [0, 1, 2, 3] rfl, hP, hS, hI⟩
                        · skip
                          refine lv_aload_n hx hb dX1_tickOne_262 rfl (lv_at hl 3 rfl) ?_
                          refine gf_X1_46 hx hb hts hown hK hP dX1_tickOne_263 ?_
                          refine lv_iload_n hx hb dX1_tickOne_266 rfl (lv_at hl 0 rfl) ?_
                          refine ld_4 hx hb hK hP (vo.in hvo_a3_188 h259) dX1_tickOne_267 ?_
                          refine lv_aload_n hx hb dX1_tickOne_268 rfl (lv_at hl 3 rfl) ?_
                          refine gf_X1_13 hx hb hts hown hK hP dX1_tickOne_269 ?_
                          refine lv_iload_n hx hb dX1_tickOne_272 rfl (lv_at hl 1 rfl) ?_
                          refine ld_7 hx hb hK hP (vp_in_nI (by omega) (by decide)) dX1_tickOne_273 ?_
                          refine W.lcmp hx hb dX1_tickOne_274 ?_
                          refine lv_if_le (tgt := 287) hx hb dX1_tickOne_275 (by decide) (fun h275 => ?_) (fun h275 => ?_)
                          · skip
                            refine lv_aload_n hx hb dX1_tickOne_287 rfl (lv_at hl 3 rfl) ?_
                            refine gf_X1_13 hx hb hts hown hK hP dX1_tickOne_288 ?_
                            refine lv_iload_n hx hb dX1_tickOne_291 rfl (lv_at hl 1 rfl) ?_
                            refine ld_7 hx hb hK hP (vp_in_nI (by omega) (by decide)) dX1_tickOne_292 ?_
                            exact K259 _ _ _ _ ⟨((sI (sI τ_107 10 (ix (nI i_107)) ((τ_107.1 10 (ix (nI i_107))) + (if (τ_107.1 8 (ix (nI i_107))) = (-1) then (if (τ_107.1 9 (ix (nI i_107))) = 0 then 1 else 0) else 0))) 11 (ix (nI i_107)) (((sI τ_107 10 (ix (nI i_107)) ((τ_107.1 10 (ix (nI i_107))) + (if (τ_107.1 8 (ix (nI i_107))) = (-1) then (if (τ_107.1 9 (ix (nI i_107))) = 0 then 1 else 0) else 0))).1 11 (ix (nI i_107))) + (if ((sI τ_107 10 (ix (nI i_107)) ((τ_107.1 10 (ix (nI i_107))) + (if (τ_107.1 8 (ix (nI i_107))) = (-1) then (if (τ_107.1 9 (ix (nI i_107))) = 0 then 1 else 0) else 0))).1 8 (ix (nI i_107))) = (-1) then (if ((sI τ_107 10 (ix (nI i_107)) ((τ_107.1 10 (ix (nI i_107))) + (if (τ_107.1 8 (ix (nI i_107))) = (-1) then (if (τ_107.1 9 (ix (nI i_107))) = 0 then 1 else 0) else 0))).1 9 (ix (nI i_107))) = 0 then 0 else 1) else 0))).2.1 7 (ix (nI i_107))), (Eq.symm (Eq.trans (if_neg h259) (if_pos h275))), rfl, lv_sub hl [0, 1, 2, 3] rfl, hP, hS, hI⟩
                          · skip
                            refine lv_aload_n hx hb dX1_tickOne_278 rfl (lv_at hl 3 rfl) ?_
                            refine gf_X1_46 hx hb hts hown hK hP dX1_tickOne_279 ?_
                            refine lv_iload_n hx hb dX1_tickOne_282 rfl (lv_at hl 0 rfl) ?_
                            refine ld_4 hx hb hK hP (vo.in hvo_a3_188 h259) dX1_tickOne_283 ?_
                            refine lv_goto (tgt := 293) hx hb dX1_tickOne_284 (by decide) ?_
                            exact K259 _ _ _ _ ⟨((sI (sI τ_107 10 (ix (nI i_107)) ((τ_107.1 10 (ix (nI i_107))) + (if (τ_107.1 8 (ix (nI i_107))) = (-1) then (if (τ_107.1 9 (ix (nI i_107))) = 0 then 1 else 0) else 0))) 11 (ix (nI i_107)) (((sI τ_107 10 (ix (nI i_107)) ((τ_107.1 10 (ix (nI i_107))) + (if (τ_107.1 8 (ix (nI i_107))) = (-1) then (if (τ_107.1 9 (ix (nI i_107))) = 0 then 1 else 0) else 0))).1 11 (ix (nI i_107))) + (if ((sI τ_107 10 (ix (nI i_107)) ((τ_107.1 10 (ix (nI i_107))) + (if (τ_107.1 8 (ix (nI i_107))) = (-1) then (if (τ_107.1 9 (ix (nI i_107))) = 0 then 1 else 0) else 0))).1 8 (ix (nI i_107))) = (-1) then (if ((sI τ_107 10 (ix (nI i_107)) ((τ_107.1 10 (ix (nI i_107))) + (if (τ_107.1 8 (ix (nI i_107))) = (-1) then (if (τ_107.1 9 (ix (nI i_107))) = 0 then 1 else 0) else 0))).1 9 (ix (nI i_107))) = 0 then 0 else 1) else 0))).2.1 4 (ix (lp (F_X1_tickOne_188 T C i_107 τ_107) T 0 (-1)))), (Eq.symm (Eq.trans (if_neg h259) (if_neg h275))), rfl, lv_sub hl [0, 1, 2, 3] rfl, hP, hS, hI⟩
                    | succ n_188 ih_188 =>
                      intro i_188 a3_188 ls H locs hi_188 hres_188 hvo_a3_188 hl hP hS
                      refine lv_iload hx hb dX1_tickOne_188 (lv_at hl 0 rfl) ?_
                      refine lv_aload_n hx hb dX1_tickOne_190 rfl (lv_at hl 4 rfl) ?_
                      refine gf_X1_69 hx hb hts hown hK hP dX1_tickOne_191 ?_
                      refine lv_icmp_ge (tgt := 252) hx hb dX1_tickOne_194 (by decide) (fun h => absurd h (lp_in hI.2.1 (by omega) hi_188)) (fun _ => ?_)
                      refine lv_aload_n hx hb dX1_tickOne_197 rfl (lv_at hl 4 rfl) ?_
                      refine lv_iload hx hb dX1_tickOne_198 (lv_at hl 0 rfl) ?_
                      refine cl_RI (k_X1_isRunnable l E q hq hT hC (sI (sI τ_107 10 (ix (nI i_107)) ((τ_107.1 10 (ix (nI i_107))) + (if (τ_107.1 8 (ix (nI i_107))) = (-1) then (if (τ_107.1 9 (ix (nI i_107))) = 0 then 1 else 0) else 0))) 11 (ix (nI i_107)) (((sI τ_107 10 (ix (nI i_107)) ((τ_107.1 10 (ix (nI i_107))) + (if (τ_107.1 8 (ix (nI i_107))) = (-1) then (if (τ_107.1 9 (ix (nI i_107))) = 0 then 1 else 0) else 0))).1 11 (ix (nI i_107))) + (if ((sI τ_107 10 (ix (nI i_107)) ((τ_107.1 10 (ix (nI i_107))) + (if (τ_107.1 8 (ix (nI i_107))) = (-1) then (if (τ_107.1 9 (ix (nI i_107))) = 0 then 1 else 0) else 0))).1 8 (ix (nI i_107))) = (-1) then (if ((sI τ_107 10 (ix (nI i_107)) ((τ_107.1 10 (ix (nI i_107))) + (if (τ_107.1 8 (ix (nI i_107))) = (-1) then (if (τ_107.1 9 (ix (nI i_107))) = 0 then 1 else 0) else 0))).1 9 (ix (nI i_107))) = 0 then 0 else 1) else 0))) hI (nI i_188) (vp_in_nI (by omega) (by decide))) gw_X1_86 hd_X1_isRunnable ⟨rfl, rfl⟩ S0 hK hP (rest := []) rfl hl.1 (Nat.le_of_ble_eq_true rfl) ⟨(Nat.le_of_ble_eq_true rfl), (Nat.le_of_ble_eq_true rfl)⟩ ⟨Nat.zero_le _, Nat.zero_le _⟩ dX1_tickOne_200 (fun hex => ?_)
                      refine cutG (fun ls H locs st => ∃ y0 : Int32, y0 = (if (f_X1_isRunnable T C (sI (sI τ_107 10 (ix (nI i_107)) ((τ_107.1 10 (ix (nI i_107))) + (if (τ_107.1 8 (ix (nI i_107))) = (-1) then (if (τ_107.1 9 (ix (nI i_107))) = 0 then 1 else 0) else 0))) 11 (ix (nI i_107)) (((sI τ_107 10 (ix (nI i_107)) ((τ_107.1 10 (ix (nI i_107))) + (if (τ_107.1 8 (ix (nI i_107))) = (-1) then (if (τ_107.1 9 (ix (nI i_107))) = 0 then 1 else 0) else 0))).1 11 (ix (nI i_107))) + (if ((sI τ_107 10 (ix (nI i_107)) ((τ_107.1 10 (ix (nI i_107))) + (if (τ_107.1 8 (ix (nI i_107))) = (-1) then (if (τ_107.1 9 (ix (nI i_107))) = 0 then 1 else 0) else 0))).1 8 (ix (nI i_107))) = (-1) then (if ((sI τ_107 10 (ix (nI i_107)) ((τ_107.1 10 (ix (nI i_107))) + (if (τ_107.1 8 (ix (nI i_107))) = (-1) then (if (τ_107.1 9 (ix (nI i_107))) = 0 then 1 else 0) else 0))).1 9 (ix (nI i_107))) = 0 then 0 else 1) else 0))) (nI i_188)) = 0 then a3_188 else (if ((sI (sI τ_107 10 (ix (nI i_107)) ((τ_107.1 10 (ix (nI i_107))) + (if (τ_107.1 8 (ix (nI i_107))) = (-1) then (if (τ_107.1 9 (ix (nI i_107))) = 0 then 1 else 0) else 0))) 11 (ix (nI i_107)) (((sI τ_107 10 (ix (nI i_107)) ((τ_107.1 10 (ix (nI i_107))) + (if (τ_107.1 8 (ix (nI i_107))) = (-1) then (if (τ_107.1 9 (ix (nI i_107))) = 0 then 1 else 0) else 0))).1 11 (ix (nI i_107))) + (if ((sI τ_107 10 (ix (nI i_107)) ((τ_107.1 10 (ix (nI i_107))) + (if (τ_107.1 8 (ix (nI i_107))) = (-1) then (if (τ_107.1 9 (ix (nI i_107))) = 0 then 1 else 0) else 0))).1 8 (ix (nI i_107))) = (-1) then (if ((sI τ_107 10 (ix (nI i_107)) ((τ_107.1 10 (ix (nI i_107))) + (if (τ_107.1 8 (ix (nI i_107))) = (-1) then (if (τ_107.1 9 (ix (nI i_107))) = 0 then 1 else 0) else 0))).1 9 (ix (nI i_107))) = 0 then 0 else 1) else 0))).1 0 (ix (nI i_188))) = (nI i_107) then (if a3_188 = (-1) then (nI i_188) else (if 0 ≤ (lg_cmp ((sI (sI τ_107 10 (ix (nI i_107)) ((τ_107.1 10 (ix (nI i_107))) + (if (τ_107.1 8 (ix (nI i_107))) = (-1) then (if (τ_107.1 9 (ix (nI i_107))) = 0 then 1 else 0) else 0))) 11 (ix (nI i_107)) (((sI τ_107 10 (ix (nI i_107)) ((τ_107.1 10 (ix (nI i_107))) + (if (τ_107.1 8 (ix (nI i_107))) = (-1) then (if (τ_107.1 9 (ix (nI i_107))) = 0 then 1 else 0) else 0))).1 11 (ix (nI i_107))) + (if ((sI τ_107 10 (ix (nI i_107)) ((τ_107.1 10 (ix (nI i_107))) + (if (τ_107.1 8 (ix (nI i_107))) = (-1) then (if (τ_107.1 9 (ix (nI i_107))) = 0 then 1 else 0) else 0))).1 8 (ix (nI i_107))) = (-1) then (if ((sI τ_107 10 (ix (nI i_107)) ((τ_107.1 10 (ix (nI i_107))) + (if (τ_107.1 8 (ix (nI i_107))) = (-1) then (if (τ_107.1 9 (ix (nI i_107))) = 0 then 1 else 0) else 0))).1 9 (ix (nI i_107))) = 0 then 0 else 1) else 0))).2.1 4 (ix (nI i_188))) ((sI (sI τ_107 10 (ix (nI i_107)) ((τ_107.1 10 (ix (nI i_107))) + (if (τ_107.1 8 (ix (nI i_107))) = (-1) then (if (τ_107.1 9 (ix (nI i_107))) = 0 then 1 else 0) else 0))) 11 (ix (nI i_107)) (((sI τ_107 10 (ix (nI i_107)) ((τ_107.1 10 (ix (nI i_107))) + (if (τ_107.1 8 (ix (nI i_107))) = (-1) then (if (τ_107.1 9 (ix (nI i_107))) = 0 then 1 else 0) else 0))).1 11 (ix (nI i_107))) + (if ((sI τ_107 10 (ix (nI i_107)) ((τ_107.1 10 (ix (nI i_107))) + (if (τ_107.1 8 (ix (nI i_107))) = (-1) then (if (τ_107.1 9 (ix (nI i_107))) = 0 then 1 else 0) else 0))).1 8 (ix (nI i_107))) = (-1) then (if ((sI τ_107 10 (ix (nI i_107)) ((τ_107.1 10 (ix (nI i_107))) + (if (τ_107.1 8 (ix (nI i_107))) = (-1) then (if (τ_107.1 9 (ix (nI i_107))) = 0 then 1 else 0) else 0))).1 9 (ix (nI i_107))) = 0 then 0 else 1) else 0))).2.1 4 (ix a3_188))) then a3_188 else (nI i_188))) else a3_188)) ∧ st = [.int y0] ∧ lv_has ls 5 [(4, .int (nI i_188)), (3, .int a3_188), (2, .int (nI i_107)), (1, .int ((lp F_X1_tickOne_25 T 0 (0, (lp (F_X1_tickOne_2 T C) C 0 σ))).1)), (0, .ref (q 0))] ∧ PP 1 E q (sI (sI τ_107 10 (ix (nI i_107)) ((τ_107.1 10 (ix (nI i_107))) + (if (τ_107.1 8 (ix (nI i_107))) = (-1) then (if (τ_107.1 9 (ix (nI i_107))) = 0 then 1 else 0) else 0))) 11 (ix (nI i_107)) (((sI τ_107 10 (ix (nI i_107)) ((τ_107.1 10 (ix (nI i_107))) + (if (τ_107.1 8 (ix (nI i_107))) = (-1) then (if (τ_107.1 9 (ix (nI i_107))) = 0 then 1 else 0) else 0))).1 11 (ix (nI i_107))) + (if ((sI τ_107 10 (ix (nI i_107)) ((τ_107.1 10 (ix (nI i_107))) + (if (τ_107.1 8 (ix (nI i_107))) = (-1) then (if (τ_107.1 9 (ix (nI i_107))) = 0 then 1 else 0) else 0))).1 8 (ix (nI i_107))) = (-1) then (if ((sI τ_107 10 (ix (nI i_107)) ((τ_107.1 10 (ix (nI i_107))) + (if (τ_107.1 8 (ix (nI i_107))) = (-1) then (if (τ_107.1 9 (ix (nI i_107))) = 0 then 1 else 0) else 0))).1 9 (ix (nI i_107))) = 0 then 0 else 1) else 0))) H ∧ va_S (Aq q) s.heap H locs ∧ Inv T C (sI (sI τ_107 10 (ix (nI i_107)) ((τ_107.1 10 (ix (nI i_107))) + (if (τ_107.1 8 (ix (nI i_107))) = (-1) then (if (τ_107.1 9 (ix (nI i_107))) = 0 then 1 else 0) else 0))) 11 (ix (nI i_107)) (((sI τ_107 10 (ix (nI i_107)) ((τ_107.1 10 (ix (nI i_107))) + (if (τ_107.1 8 (ix (nI i_107))) = (-1) then (if (τ_107.1 9 (ix (nI i_107))) = 0 then 1 else 0) else 0))).1 11 (ix (nI i_107))) + (if ((sI τ_107 10 (ix (nI i_107)) ((τ_107.1 10 (ix (nI i_107))) + (if (τ_107.1 8 (ix (nI i_107))) = (-1) then (if (τ_107.1 9 (ix (nI i_107))) = 0 then 1 else 0) else 0))).1 8 (ix (nI i_107))) = (-1) then (if ((sI τ_107 10 (ix (nI i_107)) ((τ_107.1 10 (ix (nI i_107))) + (if (τ_107.1 8 (ix (nI i_107))) = (-1) then (if (τ_107.1 9 (ix (nI i_107))) = 0 then 1 else 0) else 0))).1 9 (ix (nI i_107))) = 0 then 0 else 1) else 0)))) 245 (fun ls H locs st hKp => ?_) (fun K203 => ?_)
                      · revert hKp
                        refine ex_eq (fun hKp => ?_)
                        obtain ⟨rfl, hl, hP, hS, hI⟩ := hKp
                        refine lv_istore_n (lv' := [(3, .int (if (f_X1_isRunnable T C (sI (sI τ_107 10 (ix (nI i_107)) ((τ_107.1 10 (ix (nI i_107))) + (if (τ_107.1 8 (ix (nI i_107))) = (-1) then (if (τ_107.1 9 (ix (nI i_107))) = 0 then 1 else 0) else 0))) 11 (ix (nI i_107)) (((sI τ_107 10 (ix (nI i_107)) ((τ_107.1 10 (ix (nI i_107))) + (if (τ_107.1 8 (ix (nI i_107))) = (-1) then (if (τ_107.1 9 (ix (nI i_107))) = 0 then 1 else 0) else 0))).1 11 (ix (nI i_107))) + (if ((sI τ_107 10 (ix (nI i_107)) ((τ_107.1 10 (ix (nI i_107))) + (if (τ_107.1 8 (ix (nI i_107))) = (-1) then (if (τ_107.1 9 (ix (nI i_107))) = 0 then 1 else 0) else 0))).1 8 (ix (nI i_107))) = (-1) then (if ((sI τ_107 10 (ix (nI i_107)) ((τ_107.1 10 (ix (nI i_107))) + (if (τ_107.1 8 (ix (nI i_107))) = (-1) then (if (τ_107.1 9 (ix (nI i_107))) = 0 then 1 else 0) else 0))).1 9 (ix (nI i_107))) = 0 then 0 else 1) else 0))) (nI i_188)) = 0 then a3_188 else (if ((sI (sI τ_107 10 (ix (nI i_107)) ((τ_107.1 10 (ix (nI i_107))) + (if (τ_107.1 8 (ix (nI i_107))) = (-1) then (if (τ_107.1 9 (ix (nI i_107))) = 0 then 1 else 0) else 0))) 11 (ix (nI i_107)) (((sI τ_107 10 (ix (nI i_107)) ((τ_107.1 10 (ix (nI i_107))) + (if (τ_107.1 8 (ix (nI i_107))) = (-1) then (if (τ_107.1 9 (ix (nI i_107))) = 0 then 1 else 0) else 0))).1 11 (ix (nI i_107))) + (if ((sI τ_107 10 (ix (nI i_107)) ((τ_107.1 10 (ix (nI i_107))) + (if (τ_107.1 8 (ix (nI i_107))) = (-1) then (if (τ_107.1 9 (ix (nI i_107))) = 0 then 1 else 0) else 0))).1 8 (ix (nI i_107))) = (-1) then (if ((sI τ_107 10 (ix (nI i_107)) ((τ_107.1 10 (ix (nI i_107))) + (if (τ_107.1 8 (ix (nI i_107))) = (-1) then (if (τ_107.1 9 (ix (nI i_107))) = 0 then 1 else 0) else 0))).1 9 (ix (nI i_107))) = 0 then 0 else 1) else 0))).1 0 (ix (nI i_188))) = (nI i_107) then (if a3_188 = (-1) then (nI i_188) else (if 0 ≤ (lg_cmp ((sI (sI τ_107 10 (ix (nI i_107)) ((τ_107.1 10 (ix (nI i_107))) + (if (τ_107.1 8 (ix (nI i_107))) = (-1) then (if (τ_107.1 9 (ix (nI i_107))) = 0 then 1 else 0) else 0))) 11 (ix (nI i_107)) (((sI τ_107 10 (ix (nI i_107)) ((τ_107.1 10 (ix (nI i_107))) + (if (τ_107.1 8 (ix (nI i_107))) = (-1) then (if (τ_107.1 9 (ix (nI i_107))) = 0 then 1 else 0) else 0))).1 11 (ix (nI i_107))) + (if ((sI τ_107 10 (ix (nI i_107)) ((τ_107.1 10 (ix (nI i_107))) + (if (τ_107.1 8 (ix (nI i_107))) = (-1) then (if (τ_107.1 9 (ix (nI i_107))) = 0 then 1 else 0) else 0))).1 8 (ix (nI i_107))) = (-1) then (if ((sI τ_107 10 (ix (nI i_107)) ((τ_107.1 10 (ix (nI i_107))) + (if (τ_107.1 8 (ix (nI i_107))) = (-1) then (if (τ_107.1 9 (ix (nI i_107))) = 0 then 1 else 0) else 0))).1 9 (ix (nI i_107))) = 0 then 0 else 1) else 0))).2.1 4 (ix (nI i_188))) ((sI (sI τ_107 10 (ix (nI i_107)) ((τ_107.1 10 (ix (nI i_107))) + (if (τ_107.1 8 (ix (nI i_107))) = (-1) then (if (τ_107.1 9 (ix (nI i_107))) = 0 then 1 else 0) else 0))) 11 (ix (nI i_107)) (((sI τ_107 10 (ix (nI i_107)) ((τ_107.1 10 (ix (nI i_107))) + (if (τ_107.1 8 (ix (nI i_107))) = (-1) then (if (τ_107.1 9 (ix (nI i_107))) = 0 then 1 else 0) else 0))).1 11 (ix (nI i_107))) + (if ((sI τ_107 10 (ix (nI i_107)) ((τ_107.1 10 (ix (nI i_107))) + (if (τ_107.1 8 (ix (nI i_107))) = (-1) then (if (τ_107.1 9 (ix (nI i_107))) = 0 then 1 else 0) else 0))).1 8 (ix (nI i_107))) = (-1) then (if ((sI τ_107 10 (ix (nI i_107)) ((τ_107.1 10 (ix (nI i_107))) + (if (τ_107.1 8 (ix (nI i_107))) = (-1) then (if (τ_107.1 9 (ix (nI i_107))) = 0 then 1 else 0) else 0))).1 9 (ix (nI i_107))) = 0 then 0 else 1) else 0))).2.1 4 (ix a3_188))) then a3_188 else (nI i_188))) else a3_188))), (4, .int (nI i_188)), (2, .int (nI i_107)), (1, .int ((lp F_X1_tickOne_25 T 0 (0, (lp (F_X1_tickOne_2 T C) C 0 σ))).1)), (0, .ref (q 0))]) hx hb dX1_tickOne_245 rfl hl (by decide) rfl (fun ls hl => ?_)
                        refine lv_iinc (v := (nI (i_188 + 1))) (lv' := [(4, .int (nI (i_188 + 1))), (3, .int (if (f_X1_isRunnable T C (sI (sI τ_107 10 (ix (nI i_107)) ((τ_107.1 10 (ix (nI i_107))) + (if (τ_107.1 8 (ix (nI i_107))) = (-1) then (if (τ_107.1 9 (ix (nI i_107))) = 0 then 1 else 0) else 0))) 11 (ix (nI i_107)) (((sI τ_107 10 (ix (nI i_107)) ((τ_107.1 10 (ix (nI i_107))) + (if (τ_107.1 8 (ix (nI i_107))) = (-1) then (if (τ_107.1 9 (ix (nI i_107))) = 0 then 1 else 0) else 0))).1 11 (ix (nI i_107))) + (if ((sI τ_107 10 (ix (nI i_107)) ((τ_107.1 10 (ix (nI i_107))) + (if (τ_107.1 8 (ix (nI i_107))) = (-1) then (if (τ_107.1 9 (ix (nI i_107))) = 0 then 1 else 0) else 0))).1 8 (ix (nI i_107))) = (-1) then (if ((sI τ_107 10 (ix (nI i_107)) ((τ_107.1 10 (ix (nI i_107))) + (if (τ_107.1 8 (ix (nI i_107))) = (-1) then (if (τ_107.1 9 (ix (nI i_107))) = 0 then 1 else 0) else 0))).1 9 (ix (nI i_107))) = 0 then 0 else 1) else 0))) (nI i_188)) = 0 then a3_188 else (if ((sI (sI τ_107 10 (ix (nI i_107)) ((τ_107.1 10 (ix (nI i_107))) + (if (τ_107.1 8 (ix (nI i_107))) = (-1) then (if (τ_107.1 9 (ix (nI i_107))) = 0 then 1 else 0) else 0))) 11 (ix (nI i_107)) (((sI τ_107 10 (ix (nI i_107)) ((τ_107.1 10 (ix (nI i_107))) + (if (τ_107.1 8 (ix (nI i_107))) = (-1) then (if (τ_107.1 9 (ix (nI i_107))) = 0 then 1 else 0) else 0))).1 11 (ix (nI i_107))) + (if ((sI τ_107 10 (ix (nI i_107)) ((τ_107.1 10 (ix (nI i_107))) + (if (τ_107.1 8 (ix (nI i_107))) = (-1) then (if (τ_107.1 9 (ix (nI i_107))) = 0 then 1 else 0) else 0))).1 8 (ix (nI i_107))) = (-1) then (if ((sI τ_107 10 (ix (nI i_107)) ((τ_107.1 10 (ix (nI i_107))) + (if (τ_107.1 8 (ix (nI i_107))) = (-1) then (if (τ_107.1 9 (ix (nI i_107))) = 0 then 1 else 0) else 0))).1 9 (ix (nI i_107))) = 0 then 0 else 1) else 0))).1 0 (ix (nI i_188))) = (nI i_107) then (if a3_188 = (-1) then (nI i_188) else (if 0 ≤ (lg_cmp ((sI (sI τ_107 10 (ix (nI i_107)) ((τ_107.1 10 (ix (nI i_107))) + (if (τ_107.1 8 (ix (nI i_107))) = (-1) then (if (τ_107.1 9 (ix (nI i_107))) = 0 then 1 else 0) else 0))) 11 (ix (nI i_107)) (((sI τ_107 10 (ix (nI i_107)) ((τ_107.1 10 (ix (nI i_107))) + (if (τ_107.1 8 (ix (nI i_107))) = (-1) then (if (τ_107.1 9 (ix (nI i_107))) = 0 then 1 else 0) else 0))).1 11 (ix (nI i_107))) + (if ((sI τ_107 10 (ix (nI i_107)) ((τ_107.1 10 (ix (nI i_107))) + (if (τ_107.1 8 (ix (nI i_107))) = (-1) then (if (τ_107.1 9 (ix (nI i_107))) = 0 then 1 else 0) else 0))).1 8 (ix (nI i_107))) = (-1) then (if ((sI τ_107 10 (ix (nI i_107)) ((τ_107.1 10 (ix (nI i_107))) + (if (τ_107.1 8 (ix (nI i_107))) = (-1) then (if (τ_107.1 9 (ix (nI i_107))) = 0 then 1 else 0) else 0))).1 9 (ix (nI i_107))) = 0 then 0 else 1) else 0))).2.1 4 (ix (nI i_188))) ((sI (sI τ_107 10 (ix (nI i_107)) ((τ_107.1 10 (ix (nI i_107))) + (if (τ_107.1 8 (ix (nI i_107))) = (-1) then (if (τ_107.1 9 (ix (nI i_107))) = 0 then 1 else 0) else 0))) 11 (ix (nI i_107)) (((sI τ_107 10 (ix (nI i_107)) ((τ_107.1 10 (ix (nI i_107))) + (if (τ_107.1 8 (ix (nI i_107))) = (-1) then (if (τ_107.1 9 (ix (nI i_107))) = 0 then 1 else 0) else 0))).1 11 (ix (nI i_107))) + (if ((sI τ_107 10 (ix (nI i_107)) ((τ_107.1 10 (ix (nI i_107))) + (if (τ_107.1 8 (ix (nI i_107))) = (-1) then (if (τ_107.1 9 (ix (nI i_107))) = 0 then 1 else 0) else 0))).1 8 (ix (nI i_107))) = (-1) then (if ((sI τ_107 10 (ix (nI i_107)) ((τ_107.1 10 (ix (nI i_107))) + (if (τ_107.1 8 (ix (nI i_107))) = (-1) then (if (τ_107.1 9 (ix (nI i_107))) = 0 then 1 else 0) else 0))).1 9 (ix (nI i_107))) = 0 then 0 else 1) else 0))).2.1 4 (ix a3_188))) then a3_188 else (nI i_188))) else a3_188))), (2, .int (nI i_107)), (1, .int ((lp F_X1_tickOne_25 T 0 (0, (lp (F_X1_tickOne_2 T C) C 0 σ))).1)), (0, .ref (q 0))]) hx hb dX1_tickOne_246 hl (k := 1) rfl (nI_1 _) (by decide) rfl (fun ls hl => ?_)
                        refine lv_goto (tgt := 188) hx hb dX1_tickOne_249 (by decide) ?_
                        exact ih_188 (i_188 + 1) (if (f_X1_isRunnable T C (sI (sI τ_107 10 (ix (nI i_107)) ((τ_107.1 10 (ix (nI i_107))) + (if (τ_107.1 8 (ix (nI i_107))) = (-1) then (if (τ_107.1 9 (ix (nI i_107))) = 0 then 1 else 0) else 0))) 11 (ix (nI i_107)) (((sI τ_107 10 (ix (nI i_107)) ((τ_107.1 10 (ix (nI i_107))) + (if (τ_107.1 8 (ix (nI i_107))) = (-1) then (if (τ_107.1 9 (ix (nI i_107))) = 0 then 1 else 0) else 0))).1 11 (ix (nI i_107))) + (if ((sI τ_107 10 (ix (nI i_107)) ((τ_107.1 10 (ix (nI i_107))) + (if (τ_107.1 8 (ix (nI i_107))) = (-1) then (if (τ_107.1 9 (ix (nI i_107))) = 0 then 1 else 0) else 0))).1 8 (ix (nI i_107))) = (-1) then (if ((sI τ_107 10 (ix (nI i_107)) ((τ_107.1 10 (ix (nI i_107))) + (if (τ_107.1 8 (ix (nI i_107))) = (-1) then (if (τ_107.1 9 (ix (nI i_107))) = 0 then 1 else 0) else 0))).1 9 (ix (nI i_107))) = 0 then 0 else 1) else 0))) (nI i_188)) = 0 then a3_188 else (if ((sI (sI τ_107 10 (ix (nI i_107)) ((τ_107.1 10 (ix (nI i_107))) + (if (τ_107.1 8 (ix (nI i_107))) = (-1) then (if (τ_107.1 9 (ix (nI i_107))) = 0 then 1 else 0) else 0))) 11 (ix (nI i_107)) (((sI τ_107 10 (ix (nI i_107)) ((τ_107.1 10 (ix (nI i_107))) + (if (τ_107.1 8 (ix (nI i_107))) = (-1) then (if (τ_107.1 9 (ix (nI i_107))) = 0 then 1 else 0) else 0))).1 11 (ix (nI i_107))) + (if ((sI τ_107 10 (ix (nI i_107)) ((τ_107.1 10 (ix (nI i_107))) + (if (τ_107.1 8 (ix (nI i_107))) = (-1) then (if (τ_107.1 9 (ix (nI i_107))) = 0 then 1 else 0) else 0))).1 8 (ix (nI i_107))) = (-1) then (if ((sI τ_107 10 (ix (nI i_107)) ((τ_107.1 10 (ix (nI i_107))) + (if (τ_107.1 8 (ix (nI i_107))) = (-1) then (if (τ_107.1 9 (ix (nI i_107))) = 0 then 1 else 0) else 0))).1 9 (ix (nI i_107))) = 0 then 0 else 1) else 0))).1 0 (ix (nI i_188))) = (nI i_107) then (if a3_188 = (-1) then (nI i_188) else (if 0 ≤ (lg_cmp ((sI (sI τ_107 10 (ix (nI i_107)) ((τ_107.1 10 (ix (nI i_107))) + (if (τ_107.1 8 (ix (nI i_107))) = (-1) then (if (τ_107.1 9 (ix (nI i_107))) = 0 then 1 else 0) else 0))) 11 (ix (nI i_107)) (((sI τ_107 10 (ix (nI i_107)) ((τ_107.1 10 (ix (nI i_107))) + (if (τ_107.1 8 (ix (nI i_107))) = (-1) then (if (τ_107.1 9 (ix (nI i_107))) = 0 then 1 else 0) else 0))).1 11 (ix (nI i_107))) + (if ((sI τ_107 10 (ix (nI i_107)) ((τ_107.1 10 (ix (nI i_107))) + (if (τ_107.1 8 (ix (nI i_107))) = (-1) then (if (τ_107.1 9 (ix (nI i_107))) = 0 then 1 else 0) else 0))).1 8 (ix (nI i_107))) = (-1) then (if ((sI τ_107 10 (ix (nI i_107)) ((τ_107.1 10 (ix (nI i_107))) + (if (τ_107.1 8 (ix (nI i_107))) = (-1) then (if (τ_107.1 9 (ix (nI i_107))) = 0 then 1 else 0) else 0))).1 9 (ix (nI i_107))) = 0 then 0 else 1) else 0))).2.1 4 (ix (nI i_188))) ((sI (sI τ_107 10 (ix (nI i_107)) ((τ_107.1 10 (ix (nI i_107))) + (if (τ_107.1 8 (ix (nI i_107))) = (-1) then (if (τ_107.1 9 (ix (nI i_107))) = 0 then 1 else 0) else 0))) 11 (ix (nI i_107)) (((sI τ_107 10 (ix (nI i_107)) ((τ_107.1 10 (ix (nI i_107))) + (if (τ_107.1 8 (ix (nI i_107))) = (-1) then (if (τ_107.1 9 (ix (nI i_107))) = 0 then 1 else 0) else 0))).1 11 (ix (nI i_107))) + (if ((sI τ_107 10 (ix (nI i_107)) ((τ_107.1 10 (ix (nI i_107))) + (if (τ_107.1 8 (ix (nI i_107))) = (-1) then (if (τ_107.1 9 (ix (nI i_107))) = 0 then 1 else 0) else 0))).1 8 (ix (nI i_107))) = (-1) then (if ((sI τ_107 10 (ix (nI i_107)) ((τ_107.1 10 (ix (nI i_107))) + (if (τ_107.1 8 (ix (nI i_107))) = (-1) then (if (τ_107.1 9 (ix (nI i_107))) = 0 then 1 else 0) else 0))).1 9 (ix (nI i_107))) = 0 then 0 else 1) else 0))).2.1 4 (ix a3_188))) then a3_188 else (nI i_188))) else a3_188)) ls H locs (by omega) hres_188 (Eq.subst (motive := fun z => vo z) (show (if (f_X1_isRunnable T C (sI (sI τ_107 10 (ix (nI i_107)) ((τ_107.1 10 (ix (nI i_107))) + (if (τ_107.1 8 (ix (nI i_107))) = (-1) then (if (τ_107.1 9 (ix (nI i_107))) = 0 then 1 else 0) else 0))) 11 (ix (nI i_107)) (((sI τ_107 10 (ix (nI i_107)) ((τ_107.1 10 (ix (nI i_107))) + (if (τ_107.1 8 (ix (nI i_107))) = (-1) then (if (τ_107.1 9 (ix (nI i_107))) = 0 then 1 else 0) else 0))).1 11 (ix (nI i_107))) + (if ((sI τ_107 10 (ix (nI i_107)) ((τ_107.1 10 (ix (nI i_107))) + (if (τ_107.1 8 (ix (nI i_107))) = (-1) then (if (τ_107.1 9 (ix (nI i_107))) = 0 then 1 else 0) else 0))).1 8 (ix (nI i_107))) = (-1) then (if ((sI τ_107 10 (ix (nI i_107)) ((τ_107.1 10 (ix (nI i_107))) + (if (τ_107.1 8 (ix (nI i_107))) = (-1) then (if (τ_107.1 9 (ix (nI i_107))) = 0 then 1 else 0) else 0))).1 9 (ix (nI i_107))) = 0 then 0 else 1) else 0))) (nI i_188)) = 0 then a3_188 else (if ((sI (sI τ_107 10 (ix (nI i_107)) ((τ_107.1 10 (ix (nI i_107))) + (if (τ_107.1 8 (ix (nI i_107))) = (-1) then (if (τ_107.1 9 (ix (nI i_107))) = 0 then 1 else 0) else 0))) 11 (ix (nI i_107)) (((sI τ_107 10 (ix (nI i_107)) ((τ_107.1 10 (ix (nI i_107))) + (if (τ_107.1 8 (ix (nI i_107))) = (-1) then (if (τ_107.1 9 (ix (nI i_107))) = 0 then 1 else 0) else 0))).1 11 (ix (nI i_107))) + (if ((sI τ_107 10 (ix (nI i_107)) ((τ_107.1 10 (ix (nI i_107))) + (if (τ_107.1 8 (ix (nI i_107))) = (-1) then (if (τ_107.1 9 (ix (nI i_107))) = 0 then 1 else 0) else 0))).1 8 (ix (nI i_107))) = (-1) then (if ((sI τ_107 10 (ix (nI i_107)) ((τ_107.1 10 (ix (nI i_107))) + (if (τ_107.1 8 (ix (nI i_107))) = (-1) then (if (τ_107.1 9 (ix (nI i_107))) = 0 then 1 else 0) else 0))).1 9 (ix (nI i_107))) = 0 then 0 else 1) else 0))).1 0 (ix (nI i_188))) = (nI i_107) then (if a3_188 = (-1) then (nI i_188) else (if 0 ≤ (lg_cmp ((sI (sI τ_107 10 (ix (nI i_107)) ((τ_107.1 10 (ix (nI i_107))) + (if (τ_107.1 8 (ix (nI i_107))) = (-1) then (if (τ_107.1 9 (ix (nI i_107))) = 0 then 1 else 0) else 0))) 11 (ix (nI i_107)) (((sI τ_107 10 (ix (nI i_107)) ((τ_107.1 10 (ix (nI i_107))) + (if (τ_107.1 8 (ix (nI i_107))) = (-1) then (if (τ_107.1 9 (ix (nI i_107))) = 0 then 1 else 0) else 0))).1 11 (ix (nI i_107))) + (if ((sI τ_107 10 (ix (nI i_107)) ((τ_107.1 10 (ix (nI i_107))) + (if (τ_107.1 8 (ix (nI i_107))) = (-1) then (if (τ_107.1 9 (ix (nI i_107))) = 0 then 1 else 0) else 0))).1 8 (ix (nI i_107))) = (-1) then (if ((sI τ_107 10 (ix (nI i_107)) ((τ_107.1 10 (ix (nI i_107))) + (if (τ_107.1 8 (ix (nI i_107))) = (-1) then (if (τ_107.1 9 (ix (nI i_107))) = 0 then 1 else 0) else 0))).1 9 (ix (nI i_107))) = 0 then 0 else 1) else 0))).2.1 4 (ix (nI i_188))) ((sI (sI τ_107 10 (ix (nI i_107)) ((τ_107.1 10 (ix (nI i_107))) + (if (τ_107.1 8 (ix (nI i_107))) = (-1) then (if (τ_107.1 9 (ix (nI i_107))) = 0 then 1 else 0) else 0))) 11 (ix (nI i_107)) (((sI τ_107 10 (ix (nI i_107)) ((τ_107.1 10 (ix (nI i_107))) + (if (τ_107.1 8 (ix (nI i_107))) = (-1) then (if (τ_107.1 9 (ix (nI i_107))) = 0 then 1 else 0) else 0))).1 11 (ix (nI i_107))) + (if ((sI τ_107 10 (ix (nI i_107)) ((τ_107.1 10 (ix (nI i_107))) + (if (τ_107.1 8 (ix (nI i_107))) = (-1) then (if (τ_107.1 9 (ix (nI i_107))) = 0 then 1 else 0) else 0))).1 8 (ix (nI i_107))) = (-1) then (if ((sI τ_107 10 (ix (nI i_107)) ((τ_107.1 10 (ix (nI i_107))) + (if (τ_107.1 8 (ix (nI i_107))) = (-1) then (if (τ_107.1 9 (ix (nI i_107))) = 0 then 1 else 0) else 0))).1 9 (ix (nI i_107))) = 0 then 0 else 1) else 0))).2.1 4 (ix a3_188))) then a3_188 else (nI i_188))) else a3_188)) = (if (f_X1_isRunnable T C (sI (sI τ_107 10 (ix (nI i_107)) ((τ_107.1 10 (ix (nI i_107))) + (if (τ_107.1 8 (ix (nI i_107))) = (-1) then (if (τ_107.1 9 (ix (nI i_107))) = 0 then 1 else 0) else 0))) 11 (ix (nI i_107)) (((sI τ_107 10 (ix (nI i_107)) ((τ_107.1 10 (ix (nI i_107))) + (if (τ_107.1 8 (ix (nI i_107))) = (-1) then (if (τ_107.1 9 (ix (nI i_107))) = 0 then 1 else 0) else 0))).1 11 (ix (nI i_107))) + (if ((sI τ_107 10 (ix (nI i_107)) ((τ_107.1 10 (ix (nI i_107))) + (if (τ_107.1 8 (ix (nI i_107))) = (-1) then (if (τ_107.1 9 (ix (nI i_107))) = 0 then 1 else 0) else 0))).1 8 (ix (nI i_107))) = (-1) then (if ((sI τ_107 10 (ix (nI i_107)) ((τ_107.1 10 (ix (nI i_107))) + (if (τ_107.1 8 (ix (nI i_107))) = (-1) then (if (τ_107.1 9 (ix (nI i_107))) = 0 then 1 else 0) else 0))).1 9 (ix (nI i_107))) = 0 then 0 else 1) else 0))) (nI i_188)) = 0 then a3_188 else (if ((sI (sI τ_107 10 (ix (nI i_107)) ((τ_107.1 10 (ix (nI i_107))) + (if (τ_107.1 8 (ix (nI i_107))) = (-1) then (if (τ_107.1 9 (ix (nI i_107))) = 0 then 1 else 0) else 0))) 11 (ix (nI i_107)) (((sI τ_107 10 (ix (nI i_107)) ((τ_107.1 10 (ix (nI i_107))) + (if (τ_107.1 8 (ix (nI i_107))) = (-1) then (if (τ_107.1 9 (ix (nI i_107))) = 0 then 1 else 0) else 0))).1 11 (ix (nI i_107))) + (if ((sI τ_107 10 (ix (nI i_107)) ((τ_107.1 10 (ix (nI i_107))) + (if (τ_107.1 8 (ix (nI i_107))) = (-1) then (if (τ_107.1 9 (ix (nI i_107))) = 0 then 1 else 0) else 0))).1 8 (ix (nI i_107))) = (-1) then (if ((sI τ_107 10 (ix (nI i_107)) ((τ_107.1 10 (ix (nI i_107))) + (if (τ_107.1 8 (ix (nI i_107))) = (-1) then (if (τ_107.1 9 (ix (nI i_107))) = 0 then 1 else 0) else 0))).1 9 (ix (nI i_107))) = 0 then 0 else 1) else 0))).1 0 (ix (nI i_188))) = (nI i_107) then (if a3_188 = (-1) then (nI i_188) else (if 0 ≤ (lg_cmp ((sI (sI τ_107 10 (ix (nI i_107)) ((τ_107.1 10 (ix (nI i_107))) + (if (τ_107.1 8 (ix (nI i_107))) = (-1) then (if (τ_107.1 9 (ix (nI i_107))) = 0 then 1 else 0) else 0))) 11 (ix (nI i_107)) (((sI τ_107 10 (ix (nI i_107)) ((τ_107.1 10 (ix (nI i_107))) + (if (τ_107.1 8 (ix (nI i_107))) = (-1) then (if (τ_107.1 9 (ix (nI i_107))) = 0 then 1 else 0) else 0))).1 11 (ix (nI i_107))) + (if ((sI τ_107 10 (ix (nI i_107)) ((τ_107.1 10 (ix (nI i_107))) + (if (τ_107.1 8 (ix (nI i_107))) = (-1) then (if (τ_107.1 9 (ix (nI i_107))) = 0 then 1 else 0) else 0))).1 8 (ix (nI i_107))) = (-1) then (if ((sI τ_107 10 (ix (nI i_107)) ((τ_107.1 10 (ix (nI i_107))) + (if (τ_107.1 8 (ix (nI i_107))) = (-1) then (if (τ_107.1 9 (ix (nI i_107))) = 0 then 1 else 0) else 0))).1 9 (ix (nI i_107))) = 0 then 0 else 1) else 0))).2.1 4 (ix (nI i_188))) ((sI (sI τ_107 10 (ix (nI i_107)) ((τ_107.1 10 (ix (nI i_107))) + (if (τ_107.1 8 (ix (nI i_107))) = (-1) then (if (τ_107.1 9 (ix (nI i_107))) = 0 then 1 else 0) else 0))) 11 (ix (nI i_107)) (((sI τ_107 10 (ix (nI i_107)) ((τ_107.1 10 (ix (nI i_107))) + (if (τ_107.1 8 (ix (nI i_107))) = (-1) then (if (τ_107.1 9 (ix (nI i_107))) = 0 then 1 else 0) else 0))).1 11 (ix (nI i_107))) + (if ((sI τ_107 10 (ix (nI i_107)) ((τ_107.1 10 (ix (nI i_107))) + (if (τ_107.1 8 (ix (nI i_107))) = (-1) then (if (τ_107.1 9 (ix (nI i_107))) = 0 then 1 else 0) else 0))).1 8 (ix (nI i_107))) = (-1) then (if ((sI τ_107 10 (ix (nI i_107)) ((τ_107.1 10 (ix (nI i_107))) + (if (τ_107.1 8 (ix (nI i_107))) = (-1) then (if (τ_107.1 9 (ix (nI i_107))) = 0 then 1 else 0) else 0))).1 9 (ix (nI i_107))) = 0 then 0 else 1) else 0))).2.1 4 (ix a3_188))) then a3_188 else (nI i_188))) else a3_188)) from rfl) (show vo (if (f_X1_isRunnable T C (sI (sI τ_107 10 (ix (nI i_107)) ((τ_107.1 10 (ix (nI i_107))) + (if (τ_107.1 8 (ix (nI i_107))) = (-1) then (if (τ_107.1 9 (ix (nI i_107))) = 0 then 1 else 0) else 0))) 11 (ix (nI i_107)) (((sI τ_107 10 (ix (nI i_107)) ((τ_107.1 10 (ix (nI i_107))) + (if (τ_107.1 8 (ix (nI i_107))) = (-1) then (if (τ_107.1 9 (ix (nI i_107))) = 0 then 1 else 0) else 0))).1 11 (ix (nI i_107))) + (if ((sI τ_107 10 (ix (nI i_107)) ((τ_107.1 10 (ix (nI i_107))) + (if (τ_107.1 8 (ix (nI i_107))) = (-1) then (if (τ_107.1 9 (ix (nI i_107))) = 0 then 1 else 0) else 0))).1 8 (ix (nI i_107))) = (-1) then (if ((sI τ_107 10 (ix (nI i_107)) ((τ_107.1 10 (ix (nI i_107))) + (if (τ_107.1 8 (ix (nI i_107))) = (-1) then (if (τ_107.1 9 (ix (nI i_107))) = 0 then 1 else 0) else 0))).1 9 (ix (nI i_107))) = 0 then 0 else 1) else 0))) (nI i_188)) = 0 then a3_188 else (if ((sI (sI τ_107 10 (ix (nI i_107)) ((τ_107.1 10 (ix (nI i_107))) + (if (τ_107.1 8 (ix (nI i_107))) = (-1) then (if (τ_107.1 9 (ix (nI i_107))) = 0 then 1 else 0) else 0))) 11 (ix (nI i_107)) (((sI τ_107 10 (ix (nI i_107)) ((τ_107.1 10 (ix (nI i_107))) + (if (τ_107.1 8 (ix (nI i_107))) = (-1) then (if (τ_107.1 9 (ix (nI i_107))) = 0 then 1 else 0) else 0))).1 11 (ix (nI i_107))) + (if ((sI τ_107 10 (ix (nI i_107)) ((τ_107.1 10 (ix (nI i_107))) + (if (τ_107.1 8 (ix (nI i_107))) = (-1) then (if (τ_107.1 9 (ix (nI i_107))) = 0 then 1 else 0) else 0))).1 8 (ix (nI i_107))) = (-1) then (if ((sI τ_107 10 (ix (nI i_107)) ((τ_107.1 10 (ix (nI i_107))) + (if (τ_107.1 8 (ix (nI i_107))) = (-1) then (if (τ_107.1 9 (ix (nI i_107))) = 0 then 1 else 0) else 0))).1 9 (ix (nI i_107))) = 0 then 0 else 1) else 0))).1 0 (ix (nI i_188))) = (nI i_107) then (if a3_188 = (-1) then (nI i_188) else (if 0 ≤ (lg_cmp ((sI (sI τ_107 10 (ix (nI i_107)) ((τ_107.1 10 (ix (nI i_107))) + (if (τ_107.1 8 (ix (nI i_107))) = (-1) then (if (τ_107.1 9 (ix (nI i_107))) = 0 then 1 else 0) else 0))) 11 (ix (nI i_107)) (((sI τ_107 10 (ix (nI i_107)) ((τ_107.1 10 (ix (nI i_107))) + (if (τ_107.1 8 (ix (nI i_107))) = (-1) then (if (τ_107.1 9 (ix (nI i_107))) = 0 then 1 else 0) else 0))).1 11 (ix (nI i_107))) + (if ((sI τ_107 10 (ix (nI i_107)) ((τ_107.1 10 (ix (nI i_107))) + (if (τ_107.1 8 (ix (nI i_107))) = (-1) then (if (τ_107.1 9 (ix (nI i_107))) = 0 then 1 else 0) else 0))).1 8 (ix (nI i_107))) = (-1) then (if ((sI τ_107 10 (ix (nI i_107)) ((τ_107.1 10 (ix (nI i_107))) + (if (τ_107.1 8 (ix (nI i_107))) = (-1) then (if (τ_107.1 9 (ix (nI i_107))) = 0 then 1 else 0) else 0))).1 9 (ix (nI i_107))) = 0 then 0 else 1) else 0))).2.1 4 (ix (nI i_188))) ((sI (sI τ_107 10 (ix (nI i_107)) ((τ_107.1 10 (ix (nI i_107))) + (if (τ_107.1 8 (ix (nI i_107))) = (-1) then (if (τ_107.1 9 (ix (nI i_107))) = 0 then 1 else 0) else 0))) 11 (ix (nI i_107)) (((sI τ_107 10 (ix (nI i_107)) ((τ_107.1 10 (ix (nI i_107))) + (if (τ_107.1 8 (ix (nI i_107))) = (-1) then (if (τ_107.1 9 (ix (nI i_107))) = 0 then 1 else 0) else 0))).1 11 (ix (nI i_107))) + (if ((sI τ_107 10 (ix (nI i_107)) ((τ_107.1 10 (ix (nI i_107))) + (if (τ_107.1 8 (ix (nI i_107))) = (-1) then (if (τ_107.1 9 (ix (nI i_107))) = 0 then 1 else 0) else 0))).1 8 (ix (nI i_107))) = (-1) then (if ((sI τ_107 10 (ix (nI i_107)) ((τ_107.1 10 (ix (nI i_107))) + (if (τ_107.1 8 (ix (nI i_107))) = (-1) then (if (τ_107.1 9 (ix (nI i_107))) = 0 then 1 else 0) else 0))).1 9 (ix (nI i_107))) = 0 then 0 else 1) else 0))).2.1 4 (ix a3_188))) then a3_188 else (nI i_188))) else a3_188)) from (vo.ite hvo_a3_188 (vo.ite (vo.ite (vo_nI (by omega)) (vo.ite hvo_a3_188 (vo_nI (by omega)))) hvo_a3_188)))) (lv_sub (l' := [(4, .int (nI (i_188 + 1))), (3, .int (if (f_X1_isRunnable T C (sI (sI τ_107 10 (ix (nI i_107)) ((τ_107.1 10 (ix (nI i_107))) + (if (τ_107.1 8 (ix (nI i_107))) = (-1) then (if (τ_107.1 9 (ix (nI i_107))) = 0 then 1 else 0) else 0))) 11 (ix (nI i_107)) (((sI τ_107 10 (ix (nI i_107)) ((τ_107.1 10 (ix (nI i_107))) + (if (τ_107.1 8 (ix (nI i_107))) = (-1) then (if (τ_107.1 9 (ix (nI i_107))) = 0 then 1 else 0) else 0))).1 11 (ix (nI i_107))) + (if ((sI τ_107 10 (ix (nI i_107)) ((τ_107.1 10 (ix (nI i_107))) + (if (τ_107.1 8 (ix (nI i_107))) = (-1) then (if (τ_107.1 9 (ix (nI i_107))) = 0 then 1 else 0) else 0))).1 8 (ix (nI i_107))) = (-1) then (if ((sI τ_107 10 (ix (nI i_107)) ((τ_107.1 10 (ix (nI i_107))) + (if (τ_107.1 8 (ix (nI i_107))) = (-1) then (if (τ_107.1 9 (ix (nI i_107))) = 0 then 1 else 0) else 0))).1 9 (ix (nI i_107))) = 0 then 0 else 1) else 0))) (nI i_188)) = 0 then a3_188 else (if ((sI (sI τ_107 10 (ix (nI i_107)) ((τ_107.1 10 (ix (nI i_107))) + (if (τ_107.1 8 (ix (nI i_107))) = (-1) then (if (τ_107.1 9 (ix (nI i_107))) = 0 then 1 else 0) else 0))) 11 (ix (nI i_107)) (((sI τ_107 10 (ix (nI i_107)) ((τ_107.1 10 (ix (nI i_107))) + (if (τ_107.1 8 (ix (nI i_107))) = (-1) then (if (τ_107.1 9 (ix (nI i_107))) = 0 then 1 else 0) else 0))).1 11 (ix (nI i_107))) + (if ((sI τ_107 10 (ix (nI i_107)) ((τ_107.1 10 (ix (nI i_107))) + (if (τ_107.1 8 (ix (nI i_107))) = (-1) then (if (τ_107.1 9 (ix (nI i_107))) = 0 then 1 else 0) else 0))).1 8 (ix (nI i_107))) = (-1) then (if ((sI τ_107 10 (ix (nI i_107)) ((τ_107.1 10 (ix (nI i_107))) + (if (τ_107.1 8 (ix (nI i_107))) = (-1) then (if (τ_107.1 9 (ix (nI i_107))) = 0 then 1 else 0) else 0))).1 9 (ix (nI i_107))) = 0 then 0 else 1) else 0))).1 0 (ix (nI i_188))) = (nI i_107) then (if a3_188 = (-1) then (nI i_188) else (if 0 ≤ (lg_cmp ((sI (sI τ_107 10 (ix (nI i_107)) ((τ_107.1 10 (ix (nI i_107))) + (if (τ_107.1 8 (ix (nI i_107))) = (-1) then (if (τ_107.1 9 (ix (nI i_107))) = 0 then 1 else 0) else 0))) 11 (ix (nI i_107)) (((sI τ_107 10 (ix (nI i_107)) ((τ_107.1 10 (ix (nI i_107))) + (if (τ_107.1 8 (ix (nI i_107))) = (-1) then (if (τ_107.1 9 (ix (nI i_107))) = 0 then 1 else 0) else 0))).1 11 (ix (nI i_107))) + (if ((sI τ_107 10 (ix (nI i_107)) ((τ_107.1 10 (ix (nI i_107))) + (if (τ_107.1 8 (ix (nI i_107))) = (-1) then (if (τ_107.1 9 (ix (nI i_107))) = 0 then 1 else 0) else 0))).1 8 (ix (nI i_107))) = (-1) then (if ((sI τ_107 10 (ix (nI i_107)) ((τ_107.1 10 (ix (nI i_107))) + (if (τ_107.1 8 (ix (nI i_107))) = (-1) then (if (τ_107.1 9 (ix (nI i_107))) = 0 then 1 else 0) else 0))).1 9 (ix (nI i_107))) = 0 then 0 else 1) else 0))).2.1 4 (ix (nI i_188))) ((sI (sI τ_107 10 (ix (nI i_107)) ((τ_107.1 10 (ix (nI i_107))) + (if (τ_107.1 8 (ix (nI i_107))) = (-1) then (if (τ_107.1 9 (ix (nI i_107))) = 0 then 1 else 0) else 0))) 11 (ix (nI i_107)) (((sI τ_107 10 (ix (nI i_107)) ((τ_107.1 10 (ix (nI i_107))) + (if (τ_107.1 8 (ix (nI i_107))) = (-1) then (if (τ_107.1 9 (ix (nI i_107))) = 0 then 1 else 0) else 0))).1 11 (ix (nI i_107))) + (if ((sI τ_107 10 (ix (nI i_107)) ((τ_107.1 10 (ix (nI i_107))) + (if (τ_107.1 8 (ix (nI i_107))) = (-1) then (if (τ_107.1 9 (ix (nI i_107))) = 0 then 1 else 0) else 0))).1 8 (ix (nI i_107))) = (-1) then (if ((sI τ_107 10 (ix (nI i_107)) ((τ_107.1 10 (ix (nI i_107))) + (if (τ_107.1 8 (ix (nI i_107))) = (-1) then (if (τ_107.1 9 (ix (nI i_107))) = 0 then 1 else 0) else 0))).1 9 (ix (nI i_107))) = 0 then 0 else 1) else 0))).2.1 4 (ix a3_188))) then a3_188 else (nI i_188))) else a3_188))), (2, .int (nI i_107)), (1, .int ((lp F_X1_tickOne_25 T 0 (0, (lp (F_X1_tickOne_2 T C) C 0 σ))).1)), (0, .ref (q 0))]) hl [0, 1, 2, 3, 4] rfl) hP hS
                      · refine lv_if_eq (tgt := 244) hx hb dX1_tickOne_203 (by decide) (fun h203 => ?_) (fun h203 => ?_)
                        · skip
                          refine lv_iload_n hx hb dX1_tickOne_244 rfl (lv_at hl 1 rfl) ?_
                          exact K203 _ _ _ _ ⟨a3_188, (Eq.symm (if_pos h203)), rfl, lv_sub hl [0, 1, 2, 3, 4] rfl, hP, hS, hI⟩
                        · skip
                          refine lv_aload_n hx hb dX1_tickOne_206 rfl (lv_at hl 4 rfl) ?_
                          refine gf_X1_34 hx hb hts hown hK hP dX1_tickOne_207 ?_
                          refine lv_iload hx hb dX1_tickOne_210 (lv_at hl 0 rfl) ?_
                          refine ld_0 hx hb hK hP (vp_in_nI (by omega) (by decide)) dX1_tickOne_212 ?_
                          refine lv_iload_n hx hb dX1_tickOne_213 rfl (lv_at hl 2 rfl) ?_
                          refine lv_icmp_ne (tgt := 244) hx hb dX1_tickOne_214 (by decide) (fun h214 => ?_) (fun h214 => ?_)
                          · skip
                            refine lv_iload_n hx hb dX1_tickOne_244 rfl (lv_at hl 1 rfl) ?_
                            exact K203 _ _ _ _ ⟨a3_188, (Eq.symm (Eq.trans (if_neg h203) (if_neg h214))), rfl, lv_sub hl [0, 1, 2, 3, 4] rfl, hP, hS, hI⟩
                          · skip
                            refine lv_iload_n hx hb dX1_tickOne_217 rfl (lv_at hl 1 rfl) ?_
                            refine lv_iconst (v := -1) hx hb dX1_tickOne_218 (by decide) ?_
                            refine lv_icmp_eq (tgt := 239) hx hb dX1_tickOne_219 (by decide) (fun h219 => ?_) (fun h219 => ?_)
                            · skip
                              refine lv_iload hx hb dX1_tickOne_239 (lv_at hl 0 rfl) ?_
                              refine lv_goto (tgt := 245) hx hb dX1_tickOne_241 (by decide) ?_
                              exact K203 _ _ _ _ ⟨(nI i_188), (Eq.symm (Eq.trans (Eq.trans (if_neg h203) (if_pos h214)) (if_pos h219))), rfl, lv_sub hl [0, 1, 2, 3, 4] rfl, hP, hS, hI⟩
                            · skip
                              refine lv_aload_n hx hb dX1_tickOne_222 rfl (lv_at hl 4 rfl) ?_
                              refine gf_X1_46 hx hb hts hown hK hP dX1_tickOne_223 ?_
                              refine lv_iload hx hb dX1_tickOne_226 (lv_at hl 0 rfl) ?_
                              refine ld_4 hx hb hK hP (vp_in_nI (by omega) (by decide)) dX1_tickOne_228 ?_
                              refine lv_aload_n hx hb dX1_tickOne_229 rfl (lv_at hl 4 rfl) ?_
                              refine gf_X1_46 hx hb hts hown hK hP dX1_tickOne_230 ?_
                              refine lv_iload_n hx hb dX1_tickOne_233 rfl (lv_at hl 1 rfl) ?_
                              refine ld_4 hx hb hK hP (vo.in hvo_a3_188 h219) dX1_tickOne_234 ?_
                              refine W.lcmp hx hb dX1_tickOne_235 ?_
                              refine lv_if_ge (tgt := 244) hx hb dX1_tickOne_236 (by decide) (fun h236 => ?_) (fun h236 => ?_)
                              · skip
                                refine lv_iload_n hx hb dX1_tickOne_244 rfl (lv_at hl 1 rfl) ?_
                                exact K203 _ _ _ _ ⟨a3_188, (Eq.symm (Eq.trans (Eq.trans (Eq.trans (if_neg h203) (if_pos h214)) (if_neg h219)) (if_pos h236))), rfl, lv_sub hl [0, 1, 2, 3, 4] rfl, hP, hS, hI⟩
                              · skip
                                refine lv_iload hx hb dX1_tickOne_239 (lv_at hl 0 rfl) ?_
                                refine lv_goto (tgt := 245) hx hb dX1_tickOne_241 (by decide) ?_
                                exact K203 _ _ _ _ ⟨(nI i_188), (Eq.symm (Eq.trans (Eq.trans (Eq.trans (if_neg h203) (if_pos h214)) (if_neg h219)) (if_neg h236))), rfl, lv_sub hl [0, 1, 2, 3, 4] rfl, hP, hS, hI⟩
                  exact L_188 T 0 (-1) ls H locs (Nat.zero_add T) rfl vo_1 (lv_sub hl [0, 1, 2, 3, 4] rfl) hP hS
                · refine lv_icmp_ne (tgt := 180) hx hb dX1_tickOne_164 (by decide) (fun h164 => ?_) (fun h164 => ?_)
                  · skip
                    refine lv_iconst (v := 0) hx hb dX1_tickOne_180 (by decide) ?_
                    exact K164 _ _ _ _ ⟨0, (Eq.symm (if_neg h164)), rfl, lv_sub hl [0, 1, 2] rfl, hP, hS, hI⟩
                  · skip
                    refine lv_aload_n hx hb dX1_tickOne_167 rfl (lv_at hl 2 rfl) ?_
                    refine gf_X1_21 hx hb hts hown hK hP dX1_tickOne_168 ?_
                    refine lv_iload_n hx hb dX1_tickOne_171 rfl (lv_at hl 0 rfl) ?_
                    refine ld_9 hx hb hK hP (vp_in_nI (by omega) (by decide)) dX1_tickOne_172 ?_
                    refine lv_if_eq (tgt := 180) hx hb dX1_tickOne_173 (by decide) (fun h173 => ?_) (fun h173 => ?_)
                    · skip
                      refine lv_iconst (v := 0) hx hb dX1_tickOne_180 (by decide) ?_
                      exact K164 _ _ _ _ ⟨0, (Eq.symm (Eq.trans (if_pos h164) (if_pos h173))), rfl, lv_sub hl [0, 1, 2] rfl, hP, hS, hI⟩
                    · skip
                      refine lv_iconst (v := 1) hx hb dX1_tickOne_176 (by decide) ?_
                      refine lv_goto (tgt := 181) hx hb dX1_tickOne_177 (by decide) ?_
                      exact K164 _ _ _ _ ⟨1, (Eq.symm (Eq.trans (if_pos h164) (if_neg h173))), rfl, lv_sub hl [0, 1, 2] rfl, hP, hS, hI⟩
              · refine lv_icmp_ne (tgt := 147) hx hb dX1_tickOne_131 (by decide) (fun h131 => ?_) (fun h131 => ?_)
                · skip
                  refine lv_iconst (v := 0) hx hb dX1_tickOne_147 (by decide) ?_
                  exact K131 _ _ _ _ ⟨0, (Eq.symm (if_neg h131)), rfl, lv_sub hl [0, 1, 2] rfl, hP, hS, hI⟩
                · skip
                  refine lv_aload_n hx hb dX1_tickOne_134 rfl (lv_at hl 2 rfl) ?_
                  refine gf_X1_21 hx hb hts hown hK hP dX1_tickOne_135 ?_
                  refine lv_iload_n hx hb dX1_tickOne_138 rfl (lv_at hl 0 rfl) ?_
                  refine ld_9 hx hb hK hP (vp_in_nI (by omega) (by decide)) dX1_tickOne_139 ?_
                  refine lv_if_ne (tgt := 147) hx hb dX1_tickOne_140 (by decide) (fun h140 => ?_) (fun h140 => ?_)
                  · skip
                    refine lv_iconst (v := 0) hx hb dX1_tickOne_147 (by decide) ?_
                    exact K131 _ _ _ _ ⟨0, (Eq.symm (Eq.trans (if_pos h131) (if_neg h140))), rfl, lv_sub hl [0, 1, 2] rfl, hP, hS, hI⟩
                  · skip
                    refine lv_iconst (v := 1) hx hb dX1_tickOne_143 (by decide) ?_
                    refine lv_goto (tgt := 148) hx hb dX1_tickOne_144 (by decide) ?_
                    exact K131 _ _ _ _ ⟨1, (Eq.symm (Eq.trans (if_pos h131) (if_pos h140))), rfl, lv_sub hl [0, 1, 2] rfl, hP, hS, hI⟩
          exact L_107 (2 * C) 0 ((lp F_X1_tickOne_25 T 0 (0, (lp (F_X1_tickOne_2 T C) C 0 σ))).2) ls H locs (Nat.zero_add _) rfl hI (lv_sub hl [0, 1, 2] rfl) hP hS
        | succ n_25 ih_25 =>
          intro i_25 a1_25 τ_25 ls H locs hi_25 hres_25 hI hl hP hS
          refine lv_iload_n hx hb dX1_tickOne_25 rfl (lv_at hl 0 rfl) ?_
          refine lv_aload_n hx hb dX1_tickOne_26 rfl (lv_at hl 2 rfl) ?_
          refine gf_X1_69 hx hb hts hown hK hP dX1_tickOne_27 ?_
          refine lv_icmp_ge (tgt := 105) hx hb dX1_tickOne_30 (by decide) (fun h => absurd h (lp_in hI.2.1 (by omega) hi_25)) (fun _ => ?_)
          refine lv_aload_n hx hb dX1_tickOne_33 rfl (lv_at hl 2 rfl) ?_
          refine gf_X1_43 hx hb hts hown hK hP dX1_tickOne_34 ?_
          refine lv_iload_n hx hb dX1_tickOne_37 rfl (lv_at hl 0 rfl) ?_
          refine ld_3 hx hb hK hP (vp_in_nI (by omega) (by decide)) dX1_tickOne_38 ?_
          refine lv_iconst (v := 1) hx hb dX1_tickOne_39 (by decide) ?_
          refine cutG (fun ls H locs st => ∃ x1 : Int32, x1 = (if (τ_25.1 3 (ix (nI i_25))) = 1 then (a1_25 + 1) else a1_25) ∧ ∃ σ9 : St, σ9 = (if (τ_25.1 3 (ix (nI i_25))) = 1 then (sJ (sI τ_25 5 (ix (nI i_25)) ((τ_25.1 5 (ix (nI i_25))) + 1)) 4 (ix (nI i_25)) (((sI τ_25 5 (ix (nI i_25)) ((τ_25.1 5 (ix (nI i_25))) + 1)).2.1 4 (ix (nI i_25))) + (Int32.toInt64 (5040 / ((sI τ_25 5 (ix (nI i_25)) ((τ_25.1 5 (ix (nI i_25))) + 1)).1 1 (ix (nI i_25))))))) else τ_25) ∧ st = [] ∧ lv_has ls 5 [(1, .int x1), (2, .int (nI i_25)), (0, .ref (q 0))] ∧ PP 1 E q σ9 H ∧ va_S (Aq q) s.heap H locs ∧ Inv T C σ9) 76 (fun ls H locs st hKp => ?_) (fun K40 => ?_)
          · revert hKp
            refine ex_eq (fun hKp => ?_)
            revert hKp; refine ex_eq (fun hKp => ?_)
            obtain ⟨rfl, hl, hP, hS, hI⟩ := hKp
            refine lv_aload_n hx hb dX1_tickOne_76 rfl (lv_at hl 2 rfl) ?_
            refine gf_X1_52 hx hb hts hown hK hP dX1_tickOne_77 ?_
            refine lv_iload_n hx hb dX1_tickOne_80 rfl (lv_at hl 1 rfl) ?_
            refine lv_dup2_11 hx hb dX1_tickOne_81 rfl rfl ?_
            refine ld_6 hx hb hK hP (vp_in_nI (by omega) (by decide)) dX1_tickOne_82 ?_
            refine lv_aload_n hx hb dX1_tickOne_83 rfl (lv_at hl 2 rfl) ?_
            refine gf_X1_43 hx hb hts hown hK hP dX1_tickOne_84 ?_
            refine lv_iload_n hx hb dX1_tickOne_87 rfl (lv_at hl 1 rfl) ?_
            refine ld_3 hx hb hK hP (vp_in_nI (by omega) (by decide)) dX1_tickOne_88 ?_
            refine cutG (fun ls H locs st => ∃ y0 : Int32, y0 = (if ((if (τ_25.1 3 (ix (nI i_25))) = 1 then (sJ (sI τ_25 5 (ix (nI i_25)) ((τ_25.1 5 (ix (nI i_25))) + 1)) 4 (ix (nI i_25)) (((sI τ_25 5 (ix (nI i_25)) ((τ_25.1 5 (ix (nI i_25))) + 1)).2.1 4 (ix (nI i_25))) + (Int32.toInt64 (5040 / ((sI τ_25 5 (ix (nI i_25)) ((τ_25.1 5 (ix (nI i_25))) + 1)).1 1 (ix (nI i_25))))))) else τ_25).1 3 (ix (nI i_25))) = 0 then 1 else 0) ∧ st = [.int y0, .int ((if (τ_25.1 3 (ix (nI i_25))) = 1 then (sJ (sI τ_25 5 (ix (nI i_25)) ((τ_25.1 5 (ix (nI i_25))) + 1)) 4 (ix (nI i_25)) (((sI τ_25 5 (ix (nI i_25)) ((τ_25.1 5 (ix (nI i_25))) + 1)).2.1 4 (ix (nI i_25))) + (Int32.toInt64 (5040 / ((sI τ_25 5 (ix (nI i_25)) ((τ_25.1 5 (ix (nI i_25))) + 1)).1 1 (ix (nI i_25))))))) else τ_25).1 6 (ix (nI i_25))), .int (nI i_25), .ref (q 7)] ∧ lv_has ls 5 [(1, .int (if (τ_25.1 3 (ix (nI i_25))) = 1 then (a1_25 + 1) else a1_25)), (2, .int (nI i_25)), (0, .ref (q 0))] ∧ PP 1 E q (if (τ_25.1 3 (ix (nI i_25))) = 1 then (sJ (sI τ_25 5 (ix (nI i_25)) ((τ_25.1 5 (ix (nI i_25))) + 1)) 4 (ix (nI i_25)) (((sI τ_25 5 (ix (nI i_25)) ((τ_25.1 5 (ix (nI i_25))) + 1)).2.1 4 (ix (nI i_25))) + (Int32.toInt64 (5040 / ((sI τ_25 5 (ix (nI i_25)) ((τ_25.1 5 (ix (nI i_25))) + 1)).1 1 (ix (nI i_25))))))) else τ_25) H ∧ va_S (Aq q) s.heap H locs ∧ Inv T C (if (τ_25.1 3 (ix (nI i_25))) = 1 then (sJ (sI τ_25 5 (ix (nI i_25)) ((τ_25.1 5 (ix (nI i_25))) + 1)) 4 (ix (nI i_25)) (((sI τ_25 5 (ix (nI i_25)) ((τ_25.1 5 (ix (nI i_25))) + 1)).2.1 4 (ix (nI i_25))) + (Int32.toInt64 (5040 / ((sI τ_25 5 (ix (nI i_25)) ((τ_25.1 5 (ix (nI i_25))) + 1)).1 1 (ix (nI i_25))))))) else τ_25)) 97 (fun ls H locs st hKp => ?_) (fun K89 => ?_)
            · revert hKp
              refine ex_eq (fun hKp => ?_)
              obtain ⟨rfl, hl, hP, hS, hI⟩ := hKp
              refine lv_iadd hx hb dX1_tickOne_97 ?_
              refine st_6 hx hb hK hq hP hS (vp_in_nI (by omega) (by decide)) dX1_tickOne_98 (fun H locs hP hS => ?_)
              have hI : Inv T C (sI (if (τ_25.1 3 (ix (nI i_25))) = 1 then (sJ (sI τ_25 5 (ix (nI i_25)) ((τ_25.1 5 (ix (nI i_25))) + 1)) 4 (ix (nI i_25)) (((sI τ_25 5 (ix (nI i_25)) ((τ_25.1 5 (ix (nI i_25))) + 1)).2.1 4 (ix (nI i_25))) + (Int32.toInt64 (5040 / ((sI τ_25 5 (ix (nI i_25)) ((τ_25.1 5 (ix (nI i_25))) + 1)).1 1 (ix (nI i_25))))))) else τ_25) 6 (ix (nI i_25)) (((if (τ_25.1 3 (ix (nI i_25))) = 1 then (sJ (sI τ_25 5 (ix (nI i_25)) ((τ_25.1 5 (ix (nI i_25))) + 1)) 4 (ix (nI i_25)) (((sI τ_25 5 (ix (nI i_25)) ((τ_25.1 5 (ix (nI i_25))) + 1)).2.1 4 (ix (nI i_25))) + (Int32.toInt64 (5040 / ((sI τ_25 5 (ix (nI i_25)) ((τ_25.1 5 (ix (nI i_25))) + 1)).1 1 (ix (nI i_25))))))) else τ_25).1 6 (ix (nI i_25))) + (if ((if (τ_25.1 3 (ix (nI i_25))) = 1 then (sJ (sI τ_25 5 (ix (nI i_25)) ((τ_25.1 5 (ix (nI i_25))) + 1)) 4 (ix (nI i_25)) (((sI τ_25 5 (ix (nI i_25)) ((τ_25.1 5 (ix (nI i_25))) + 1)).2.1 4 (ix (nI i_25))) + (Int32.toInt64 (5040 / ((sI τ_25 5 (ix (nI i_25)) ((τ_25.1 5 (ix (nI i_25))) + 1)).1 1 (ix (nI i_25))))))) else τ_25).1 3 (ix (nI i_25))) = 0 then 1 else 0))) := inv_sI (by decide) hI
              refine lv_iinc (v := (nI (i_25 + 1))) (lv' := [(2, .int (nI (i_25 + 1))), (1, .int (if (τ_25.1 3 (ix (nI i_25))) = 1 then (a1_25 + 1) else a1_25)), (0, .ref (q 0))]) hx hb dX1_tickOne_99 hl (k := 1) rfl (nI_1 _) (by decide) rfl (fun ls hl => ?_)
              refine lv_goto (tgt := 25) hx hb dX1_tickOne_102 (by decide) ?_
              exact ih_25 (i_25 + 1) (if (τ_25.1 3 (ix (nI i_25))) = 1 then (a1_25 + 1) else a1_25) (sI (if (τ_25.1 3 (ix (nI i_25))) = 1 then (sJ (sI τ_25 5 (ix (nI i_25)) ((τ_25.1 5 (ix (nI i_25))) + 1)) 4 (ix (nI i_25)) (((sI τ_25 5 (ix (nI i_25)) ((τ_25.1 5 (ix (nI i_25))) + 1)).2.1 4 (ix (nI i_25))) + (Int32.toInt64 (5040 / ((sI τ_25 5 (ix (nI i_25)) ((τ_25.1 5 (ix (nI i_25))) + 1)).1 1 (ix (nI i_25))))))) else τ_25) 6 (ix (nI i_25)) (((if (τ_25.1 3 (ix (nI i_25))) = 1 then (sJ (sI τ_25 5 (ix (nI i_25)) ((τ_25.1 5 (ix (nI i_25))) + 1)) 4 (ix (nI i_25)) (((sI τ_25 5 (ix (nI i_25)) ((τ_25.1 5 (ix (nI i_25))) + 1)).2.1 4 (ix (nI i_25))) + (Int32.toInt64 (5040 / ((sI τ_25 5 (ix (nI i_25)) ((τ_25.1 5 (ix (nI i_25))) + 1)).1 1 (ix (nI i_25))))))) else τ_25).1 6 (ix (nI i_25))) + (if ((if (τ_25.1 3 (ix (nI i_25))) = 1 then (sJ (sI τ_25 5 (ix (nI i_25)) ((τ_25.1 5 (ix (nI i_25))) + 1)) 4 (ix (nI i_25)) (((sI τ_25 5 (ix (nI i_25)) ((τ_25.1 5 (ix (nI i_25))) + 1)).2.1 4 (ix (nI i_25))) + (Int32.toInt64 (5040 / ((sI τ_25 5 (ix (nI i_25)) ((τ_25.1 5 (ix (nI i_25))) + 1)).1 1 (ix (nI i_25))))))) else τ_25).1 3 (ix (nI i_25))) = 0 then 1 else 0))) ls H locs (by omega) hres_25 (Eq.subst (motive := fun z => Inv T C z) (show (sI (if (τ_25.1 3 (ix (nI i_25))) = 1 then (sJ (sI τ_25 5 (ix (nI i_25)) ((τ_25.1 5 (ix (nI i_25))) + 1)) 4 (ix (nI i_25)) (((sI τ_25 5 (ix (nI i_25)) ((τ_25.1 5 (ix (nI i_25))) + 1)).2.1 4 (ix (nI i_25))) + (Int32.toInt64 (5040 / ((sI τ_25 5 (ix (nI i_25)) ((τ_25.1 5 (ix (nI i_25))) + 1)).1 1 (ix (nI i_25))))))) else τ_25) 6 (ix (nI i_25)) (((if (τ_25.1 3 (ix (nI i_25))) = 1 then (sJ (sI τ_25 5 (ix (nI i_25)) ((τ_25.1 5 (ix (nI i_25))) + 1)) 4 (ix (nI i_25)) (((sI τ_25 5 (ix (nI i_25)) ((τ_25.1 5 (ix (nI i_25))) + 1)).2.1 4 (ix (nI i_25))) + (Int32.toInt64 (5040 / ((sI τ_25 5 (ix (nI i_25)) ((τ_25.1 5 (ix (nI i_25))) + 1)).1 1 (ix (nI i_25))))))) else τ_25).1 6 (ix (nI i_25))) + (if ((if (τ_25.1 3 (ix (nI i_25))) = 1 then (sJ (sI τ_25 5 (ix (nI i_25)) ((τ_25.1 5 (ix (nI i_25))) + 1)) 4 (ix (nI i_25)) (((sI τ_25 5 (ix (nI i_25)) ((τ_25.1 5 (ix (nI i_25))) + 1)).2.1 4 (ix (nI i_25))) + (Int32.toInt64 (5040 / ((sI τ_25 5 (ix (nI i_25)) ((τ_25.1 5 (ix (nI i_25))) + 1)).1 1 (ix (nI i_25))))))) else τ_25).1 3 (ix (nI i_25))) = 0 then 1 else 0))) = (sI (if (τ_25.1 3 (ix (nI i_25))) = 1 then (sJ (sI τ_25 5 (ix (nI i_25)) ((τ_25.1 5 (ix (nI i_25))) + 1)) 4 (ix (nI i_25)) (((sI τ_25 5 (ix (nI i_25)) ((τ_25.1 5 (ix (nI i_25))) + 1)).2.1 4 (ix (nI i_25))) + (Int32.toInt64 (5040 / ((sI τ_25 5 (ix (nI i_25)) ((τ_25.1 5 (ix (nI i_25))) + 1)).1 1 (ix (nI i_25))))))) else τ_25) 6 (ix (nI i_25)) (((if (τ_25.1 3 (ix (nI i_25))) = 1 then (sJ (sI τ_25 5 (ix (nI i_25)) ((τ_25.1 5 (ix (nI i_25))) + 1)) 4 (ix (nI i_25)) (((sI τ_25 5 (ix (nI i_25)) ((τ_25.1 5 (ix (nI i_25))) + 1)).2.1 4 (ix (nI i_25))) + (Int32.toInt64 (5040 / ((sI τ_25 5 (ix (nI i_25)) ((τ_25.1 5 (ix (nI i_25))) + 1)).1 1 (ix (nI i_25))))))) else τ_25).1 6 (ix (nI i_25))) + (if ((if (τ_25.1 3 (ix (nI i_25))) = 1 then (sJ (sI τ_25 5 (ix (nI i_25)) ((τ_25.1 5 (ix (nI i_25))) + 1)) 4 (ix (nI i_25)) (((sI τ_25 5 (ix (nI i_25)) ((τ_25.1 5 (ix (nI i_25))) + 1)).2.1 4 (ix (nI i_25))) + (Int32.toInt64 (5040 / ((sI τ_25 5 (ix (nI i_25)) ((τ_25.1 5 (ix (nI i_25))) + 1)).1 1 (ix (nI i_25))))))) else τ_25).1 3 (ix (nI i_25))) = 0 then 1 else 0))) from rfl) hI) (lv_sub (l' := [(2, .int (nI (i_25 + 1))), (1, .int (if (τ_25.1 3 (ix (nI i_25))) = 1 then (a1_25 + 1) else a1_25)), (0, .ref (q 0))]) hl [0, 1, 2] rfl) (Eq.subst (motive := fun z => PP 1 E q z H) (show (sI (if (τ_25.1 3 (ix (nI i_25))) = 1 then (sJ (sI τ_25 5 (ix (nI i_25)) ((τ_25.1 5 (ix (nI i_25))) + 1)) 4 (ix (nI i_25)) (((sI τ_25 5 (ix (nI i_25)) ((τ_25.1 5 (ix (nI i_25))) + 1)).2.1 4 (ix (nI i_25))) + (Int32.toInt64 (5040 / ((sI τ_25 5 (ix (nI i_25)) ((τ_25.1 5 (ix (nI i_25))) + 1)).1 1 (ix (nI i_25))))))) else τ_25) 6 (ix (nI i_25)) (((if (τ_25.1 3 (ix (nI i_25))) = 1 then (sJ (sI τ_25 5 (ix (nI i_25)) ((τ_25.1 5 (ix (nI i_25))) + 1)) 4 (ix (nI i_25)) (((sI τ_25 5 (ix (nI i_25)) ((τ_25.1 5 (ix (nI i_25))) + 1)).2.1 4 (ix (nI i_25))) + (Int32.toInt64 (5040 / ((sI τ_25 5 (ix (nI i_25)) ((τ_25.1 5 (ix (nI i_25))) + 1)).1 1 (ix (nI i_25))))))) else τ_25).1 6 (ix (nI i_25))) + (if ((if (τ_25.1 3 (ix (nI i_25))) = 1 then (sJ (sI τ_25 5 (ix (nI i_25)) ((τ_25.1 5 (ix (nI i_25))) + 1)) 4 (ix (nI i_25)) (((sI τ_25 5 (ix (nI i_25)) ((τ_25.1 5 (ix (nI i_25))) + 1)).2.1 4 (ix (nI i_25))) + (Int32.toInt64 (5040 / ((sI τ_25 5 (ix (nI i_25)) ((τ_25.1 5 (ix (nI i_25))) + 1)).1 1 (ix (nI i_25))))))) else τ_25).1 3 (ix (nI i_25))) = 0 then 1 else 0))) = (sI (if (τ_25.1 3 (ix (nI i_25))) = 1 then (sJ (sI τ_25 5 (ix (nI i_25)) ((τ_25.1 5 (ix (nI i_25))) + 1)) 4 (ix (nI i_25)) (((sI τ_25 5 (ix (nI i_25)) ((τ_25.1 5 (ix (nI i_25))) + 1)).2.1 4 (ix (nI i_25))) + (Int32.toInt64 (5040 / ((sI τ_25 5 (ix (nI i_25)) ((τ_25.1 5 (ix (nI i_25))) + 1)).1 1 (ix (nI i_25))))))) else τ_25) 6 (ix (nI i_25)) (((if (τ_25.1 3 (ix (nI i_25))) = 1 then (sJ (sI τ_25 5 (ix (nI i_25)) ((τ_25.1 5 (ix (nI i_25))) + 1)) 4 (ix (nI i_25)) (((sI τ_25 5 (ix (nI i_25)) ((τ_25.1 5 (ix (nI i_25))) + 1)).2.1 4 (ix (nI i_25))) + (Int32.toInt64 (5040 / ((sI τ_25 5 (ix (nI i_25)) ((τ_25.1 5 (ix (nI i_25))) + 1)).1 1 (ix (nI i_25))))))) else τ_25).1 6 (ix (nI i_25))) + (if ((if (τ_25.1 3 (ix (nI i_25))) = 1 then (sJ (sI τ_25 5 (ix (nI i_25)) ((τ_25.1 5 (ix (nI i_25))) + 1)) 4 (ix (nI i_25)) (((sI τ_25 5 (ix (nI i_25)) ((τ_25.1 5 (ix (nI i_25))) + 1)).2.1 4 (ix (nI i_25))) + (Int32.toInt64 (5040 / ((sI τ_25 5 (ix (nI i_25)) ((τ_25.1 5 (ix (nI i_25))) + 1)).1 1 (ix (nI i_25))))))) else τ_25).1 3 (ix (nI i_25))) = 0 then 1 else 0))) from rfl) hP) hS
            · refine lv_if_ne (tgt := 96) hx hb dX1_tickOne_89 (by decide) (fun h89 => ?_) (fun h89 => ?_)
              · skip
                refine lv_iconst (v := 0) hx hb dX1_tickOne_96 (by decide) ?_
                exact K89 _ _ _ _ ⟨0, (Eq.symm (if_neg h89)), rfl, lv_sub hl [0, 1, 2] rfl, hP, hS, hI⟩
              · skip
                refine lv_iconst (v := 1) hx hb dX1_tickOne_92 (by decide) ?_
                refine lv_goto (tgt := 97) hx hb dX1_tickOne_93 (by decide) ?_
                exact K89 _ _ _ _ ⟨1, (Eq.symm (if_pos h89)), rfl, lv_sub hl [0, 1, 2] rfl, hP, hS, hI⟩
          · refine lv_icmp_ne (tgt := 76) hx hb dX1_tickOne_40 (by decide) (fun h40 => ?_) (fun h40 => ?_)
            · skip
              exact K40 _ _ _ _ ⟨a1_25, (Eq.symm (if_neg h40)), τ_25, (Eq.symm (if_neg h40)), rfl, lv_sub hl [1, 0, 2] rfl, hP, hS, hI⟩
            · skip
              refine lv_aload_n hx hb dX1_tickOne_43 rfl (lv_at hl 2 rfl) ?_
              refine gf_X1_49 hx hb hts hown hK hP dX1_tickOne_44 ?_
              refine lv_iload_n hx hb dX1_tickOne_47 rfl (lv_at hl 0 rfl) ?_
              refine lv_dup2_11 hx hb dX1_tickOne_48 rfl rfl ?_
              refine ld_5 hx hb hK hP (vp_in_nI (by omega) (by decide)) dX1_tickOne_49 ?_
              refine lv_iconst (v := 1) hx hb dX1_tickOne_50 (by decide) ?_
              refine lv_iadd hx hb dX1_tickOne_51 ?_
              refine st_5 hx hb hK hq hP hS (vp_in_nI (by omega) (by decide)) dX1_tickOne_52 (fun H locs hP hS => ?_)
              have hI : Inv T C (sI τ_25 5 (ix (nI i_25)) ((τ_25.1 5 (ix (nI i_25))) + 1)) := inv_sI (by decide) hI
              refine lv_aload_n hx hb dX1_tickOne_53 rfl (lv_at hl 2 rfl) ?_
              refine gf_X1_46 hx hb hts hown hK hP dX1_tickOne_54 ?_
              refine lv_iload_n hx hb dX1_tickOne_57 rfl (lv_at hl 0 rfl) ?_
              refine lv_dup2_11 hx hb dX1_tickOne_58 rfl rfl ?_
              refine ld_4 hx hb hK hP (vp_in_nI (by omega) (by decide)) dX1_tickOne_59 ?_
              refine lv_sipush (v := 5040) hx hb dX1_tickOne_60 (by decide) ?_
              refine lv_aload_n hx hb dX1_tickOne_63 rfl (lv_at hl 2 rfl) ?_
              refine gf_X1_37 hx hb hts hown hK hP dX1_tickOne_64 ?_
              refine lv_iload_n hx hb dX1_tickOne_67 rfl (lv_at hl 0 rfl) ?_
              refine ld_1 hx hb hK hP (vp_in_nI (by omega) (by decide)) dX1_tickOne_68 ?_
              refine lv_idiv hx hb dX1_tickOne_69 (wne hI (by omega) hT) ?_
              refine lv_i2l (v := Int32.toInt64 (5040 / ((sI τ_25 5 (ix (nI i_25)) ((τ_25.1 5 (ix (nI i_25))) + 1)).1 1 (ix (nI i_25))))) hx hb dX1_tickOne_70 rfl ?_
              refine lv_ladd hx hb dX1_tickOne_71 ?_
              refine st_4 hx hb hK hq hP hS (vp_in_nI (by omega) (by decide)) dX1_tickOne_72 (fun H locs hP hS => ?_)
              have hI : Inv T C (sJ (sI τ_25 5 (ix (nI i_25)) ((τ_25.1 5 (ix (nI i_25))) + 1)) 4 (ix (nI i_25)) (((sI τ_25 5 (ix (nI i_25)) ((τ_25.1 5 (ix (nI i_25))) + 1)).2.1 4 (ix (nI i_25))) + (Int32.toInt64 (5040 / ((sI τ_25 5 (ix (nI i_25)) ((τ_25.1 5 (ix (nI i_25))) + 1)).1 1 (ix (nI i_25))))))) := inv_sJ hI
              refine lv_iinc (v := (a1_25 + 1)) (lv' := [(1, .int (a1_25 + 1)), (2, .int (nI i_25)), (0, .ref (q 0))]) hx hb dX1_tickOne_73 hl (k := 1) rfl rfl (by decide) rfl (fun ls hl => ?_)
              exact K40 _ _ _ _ ⟨(a1_25 + 1), (Eq.symm (if_pos h40)), (sJ (sI τ_25 5 (ix (nI i_25)) ((τ_25.1 5 (ix (nI i_25))) + 1)) 4 (ix (nI i_25)) (((sI τ_25 5 (ix (nI i_25)) ((τ_25.1 5 (ix (nI i_25))) + 1)).2.1 4 (ix (nI i_25))) + (Int32.toInt64 (5040 / ((sI τ_25 5 (ix (nI i_25)) ((τ_25.1 5 (ix (nI i_25))) + 1)).1 1 (ix (nI i_25))))))), (Eq.symm (if_pos h40)), rfl, lv_sub hl [0, 1, 2] rfl, hP, hS, hI⟩
      exact L_25 T 0 0 (lp (F_X1_tickOne_2 T C) C 0 σ) ls H locs (Nat.zero_add T) rfl hI (lv_sub hl [0, 1, 2] rfl) hP hS
    | succ n_2 ih_2 =>
      intro i_2 τ_2 ls H locs hi_2 hres_2 hI hl hP hS
      refine lv_iload_n hx hb dX1_tickOne_2 rfl (lv_at hl 0 rfl) ?_
      refine lv_aload_n hx hb dX1_tickOne_3 rfl (lv_at hl 1 rfl) ?_
      refine gf_X1_7 hx hb hts hown hK hP dX1_tickOne_4 ?_
      refine lv_icmp_ge (tgt := 21) hx hb dX1_tickOne_7 (by decide) (fun h => absurd h (lp_in hI.2.2.1 (by omega) hi_2)) (fun _ => ?_)
      refine lv_aload_n hx hb dX1_tickOne_10 rfl (lv_at hl 1 rfl) ?_
      refine lv_iload_n hx hb dX1_tickOne_11 rfl (lv_at hl 0 rfl) ?_
      refine cl_WV (k_X1_picks l E q hq hT hC τ_2 hI i_2 (by first | assumption | omega)) gw_X1_112 hd_X1_picks ⟨rfl, rfl⟩ S0 hK hP hS (rest := []) rfl hl.1 (Nat.le_of_ble_eq_true rfl) ⟨(Nat.le_of_ble_eq_true rfl), (Nat.le_of_ble_eq_true rfl)⟩ ⟨Nat.zero_le _, Nat.zero_le _⟩ dX1_tickOne_12 (fun H locs hP hS hex => ?_)
      obtain ⟨hI, -⟩ := hex
      refine lv_iinc (v := (nI (i_2 + 1))) (lv' := [(1, .int (nI (i_2 + 1))), (0, .ref (q 0))]) hx hb dX1_tickOne_15 hl (k := 0) rfl (nI_1 _) (by decide) rfl (fun ls hl => ?_)
      refine lv_goto (tgt := 2) hx hb dX1_tickOne_18 (by decide) ?_
      exact ih_2 (i_2 + 1) (g_X1_picks T C τ_2 i_2) ls H locs (by omega) hres_2 (Eq.subst (motive := fun z => Inv T C z) (show (g_X1_picks T C τ_2 i_2) = (g_X1_picks T C τ_2 i_2) from rfl) hI) (lv_sub (l' := [(1, .int (nI (i_2 + 1))), (0, .ref (q 0))]) hl [0, 1] rfl) (Eq.subst (motive := fun z => PP 1 E q z H) (show (g_X1_picks T C τ_2 i_2) = (g_X1_picks T C τ_2 i_2) from rfl) hP) hS
  exact L_2 C 0 σ ls H locs (Nat.zero_add _) rfl hI (lv_sub hl [0, 1] rfl) hP hS
def f_X1_noWeight (w9 : Int32) : Int32 := (if (f_X1_in (Int32.toInt64 w9) 1 64) = 0 then 1 else 0)
def rm_X1_noWeight : Room := { frames := 1, cells := 0, slots := 0, locals := 25 }
set_option maxHeartbeats 1600000 in
set_option maxRecDepth 100000 in
theorem k_X1_noWeight (l : Launch) (w9 : Int32) : NI l yX1_noWeight cX1_noWeight 1 (some .boolean) rm_X1_noWeight [.int w9] (f_X1_noWeight w9) := by
  refine Met.ofB (by decide) (Nat.le_of_ble_eq_true rfl) (fun p e s m args below meth c ls Q B hQ hPK hl => ?_)
  obtain ⟨hx, hb, hml, hr, hlocks, hown, hts⟩ := B
  have S0 : Fx p m c cX1_noWeight 1 s args RX1 := ⟨hx, hb, hml, hown, hts⟩
  have hl : lv_has ls 1 [(0, .int w9)] := hl
  refine lv_iload_n hx hb dX1_noWeight_0 rfl (lv_at hl 0 rfl) ?_
  refine lv_i2l (v := Int32.toInt64 w9) hx hb dX1_noWeight_1 rfl ?_
  refine lv_lconst (v := 1) hx hb dX1_noWeight_2 (by decide) ?_
  refine lv_ldc2 hx hb hown (hts _ kl_X1_121) dX1_noWeight_3 ?_
  refine cl_NI (k_X1_in l (Int32.toInt64 w9) 1 64) gw_X1_72 hd_X1_in ⟨rfl, rfl⟩ S0 (rest := []) rfl hl.1 (Nat.le_of_ble_eq_true rfl) ⟨(Nat.le_of_ble_eq_true rfl), (Nat.le_of_ble_eq_true rfl)⟩ ⟨Nat.zero_le _, Nat.zero_le _⟩ dX1_noWeight_6 ?_
  refine cutG (fun ls H locs st => ∃ y0 : Int32, y0 = (if (f_X1_in (Int32.toInt64 w9) 1 64) = 0 then 1 else 0) ∧ st = [.int y0] ∧ lv_has ls 1 [(0, .int w9)] ∧ H = s.heap ∧ locs = []) 17 (fun ls H locs st hKp => ?_) (fun K9 => ?_)
  · revert hKp
    refine ex_eq (fun hKp => ?_)
    obtain ⟨rfl, hl, rfl, rfl⟩ := hKp
    exact rt_NZ hQ hx hb hr hlocks (nb_ite nb_1 nb_0) rfl dX1_noWeight_17
  · refine lv_if_ne (tgt := 16) hx hb dX1_noWeight_9 (by decide) (fun h9 => ?_) (fun h9 => ?_)
    · skip
      refine lv_iconst (v := 0) hx hb dX1_noWeight_16 (by decide) ?_
      exact K9 _ _ _ _ ⟨0, (Eq.symm (if_neg h9)), rfl, lv_sub hl [0] rfl, rfl, rfl⟩
    · skip
      refine lv_iconst (v := 1) hx hb dX1_noWeight_12 (by decide) ?_
      refine lv_goto (tgt := 17) hx hb dX1_noWeight_13 (by decide) ?_
      exact K9 _ _ _ _ ⟨1, (Eq.symm (if_pos h9)), rfl, lv_sub hl [0] rfl, rfl, rfl⟩
def f_X1_noCookie (w9 : Int32) : Int32 := (if (f_X1_in (Int32.toInt64 w9) 0 9) = 0 then 1 else 0)
def rm_X1_noCookie : Room := { frames := 1, cells := 0, slots := 0, locals := 25 }
set_option maxHeartbeats 1600000 in
set_option maxRecDepth 100000 in
theorem k_X1_noCookie (l : Launch) (w9 : Int32) : NI l yX1_noCookie cX1_noCookie 1 (some .boolean) rm_X1_noCookie [.int w9] (f_X1_noCookie w9) := by
  refine Met.ofB (by decide) (Nat.le_of_ble_eq_true rfl) (fun p e s m args below meth c ls Q B hQ hPK hl => ?_)
  obtain ⟨hx, hb, hml, hr, hlocks, hown, hts⟩ := B
  have S0 : Fx p m c cX1_noCookie 1 s args RX1 := ⟨hx, hb, hml, hown, hts⟩
  have hl : lv_has ls 1 [(0, .int w9)] := hl
  refine lv_iload_n hx hb dX1_noCookie_0 rfl (lv_at hl 0 rfl) ?_
  refine lv_i2l (v := Int32.toInt64 w9) hx hb dX1_noCookie_1 rfl ?_
  refine lv_lconst (v := 0) hx hb dX1_noCookie_2 (by decide) ?_
  refine lv_ldc2 hx hb hown (hts _ kl_X1_123) dX1_noCookie_3 ?_
  refine cl_NI (k_X1_in l (Int32.toInt64 w9) 0 9) gw_X1_72 hd_X1_in ⟨rfl, rfl⟩ S0 (rest := []) rfl hl.1 (Nat.le_of_ble_eq_true rfl) ⟨(Nat.le_of_ble_eq_true rfl), (Nat.le_of_ble_eq_true rfl)⟩ ⟨Nat.zero_le _, Nat.zero_le _⟩ dX1_noCookie_6 ?_
  refine cutG (fun ls H locs st => ∃ y0 : Int32, y0 = (if (f_X1_in (Int32.toInt64 w9) 0 9) = 0 then 1 else 0) ∧ st = [.int y0] ∧ lv_has ls 1 [(0, .int w9)] ∧ H = s.heap ∧ locs = []) 17 (fun ls H locs st hKp => ?_) (fun K9 => ?_)
  · revert hKp
    refine ex_eq (fun hKp => ?_)
    obtain ⟨rfl, hl, rfl, rfl⟩ := hKp
    exact rt_NZ hQ hx hb hr hlocks (nb_ite nb_1 nb_0) rfl dX1_noCookie_17
  · refine lv_if_ne (tgt := 16) hx hb dX1_noCookie_9 (by decide) (fun h9 => ?_) (fun h9 => ?_)
    · skip
      refine lv_iconst (v := 0) hx hb dX1_noCookie_16 (by decide) ?_
      exact K9 _ _ _ _ ⟨0, (Eq.symm (if_neg h9)), rfl, lv_sub hl [0] rfl, rfl, rfl⟩
    · skip
      refine lv_iconst (v := 1) hx hb dX1_noCookie_12 (by decide) ?_
      refine lv_goto (tgt := 17) hx hb dX1_noCookie_13 (by decide) ?_
      exact K9 _ _ _ _ ⟨1, (Eq.symm (if_pos h9)), rfl, lv_sub hl [0] rfl, rfl, rfl⟩
def f_X1_becomes (T C : Nat) (σ : St) (t : Int32) (z9 : Int32) : Int32 := (σ.1 3 (ix t))
def g_X1_becomes (T C : Nat) (σ : St) (t : Int32) (z9 : Int32) : St := (sI (if (σ.1 3 (ix t)) = 1 then (sI σ 8 (ix (σ.1 0 (ix t))) (-1)) else σ) 3 (ix t) z9)
def rm_X1_becomes : Room := { frames := 0, cells := 0, slots := 0, locals := 0 }
set_option maxHeartbeats 1600000 in
set_option maxRecDepth 100000 in
theorem k_X1_becomes (l : Launch) (E : Ev) (q : Nat → Nat) (hq : Dq q) {T C : Nat} (hT : T ≤ 16) (hC : 1 ≤ C ∧ C ≤ 4) (σ : St) (hI : Inv T C σ) (t : Int32) (z9 : Int32) (hp0 : vp_in t 16) : WI l 1 E q σ yX1_becomes cX1_becomes 4 (some .int) rm_X1_becomes [.int t, .int z9] (f_X1_becomes T C σ t z9) (g_X1_becomes T C σ t z9) (Inv T C (g_X1_becomes T C σ t z9) ∧ True) := by
  refine Met.ofB (by decide) (Nat.le_of_ble_eq_true rfl) (fun p e s m args below meth c ls Q B hQ hPK hl => ?_)
  obtain ⟨hx, hb, hml, hr, hlocks, hown, hts⟩ := B
  have S0 : Fx p m c cX1_becomes 4 s args RX1 := ⟨hx, hb, hml, hown, hts⟩
  obtain ⟨hP, hK⟩ := hPK
  suffices KH : ∀ (H : Heap) (locs : List Loc), PP 1 E q σ H → va_S (Aq q) s.heap H locs → W p l e rm_X1_becomes s m args below meth c H locs 0 0 Q (F0 m 0 ls []) from KH s.heap [] hP va_S.rf
  intro H locs hP hS
  have hl : lv_has ls 4 [(0, .ref (q 0)), (1, .int t), (2, .int z9)] := hl
  have hI0 := hI
  refine lv_aload_n hx hb dX1_becomes_0 rfl (lv_at hl 0 rfl) ?_
  refine gf_X1_43 hx hb hts hown hK hP dX1_becomes_1 ?_
  refine lv_iload_n hx hb dX1_becomes_4 rfl (lv_at hl 1 rfl) ?_
  refine ld_3 hx hb hK hP hp0 dX1_becomes_5 ?_
  refine lv_istore_n (lv' := [(3, .int (σ.1 3 (ix t))), (0, .ref (q 0)), (1, .int t), (2, .int z9)]) hx hb dX1_becomes_6 rfl hl (by decide) rfl (fun ls hl => ?_)
  refine lv_iload_n hx hb dX1_becomes_7 rfl (lv_at hl 0 rfl) ?_
  refine lv_iconst (v := 1) hx hb dX1_becomes_8 (by decide) ?_
  refine cutG (fun ls H locs st => ∃ σ9 : St, σ9 = (if (σ.1 3 (ix t)) = 1 then (sI σ 8 (ix (σ.1 0 (ix t))) (-1)) else σ) ∧ st = [] ∧ lv_has ls 4 [(3, .int (σ.1 3 (ix t))), (0, .ref (q 0)), (1, .int t), (2, .int z9)] ∧ PP 1 E q σ9 H ∧ va_S (Aq q) s.heap H locs ∧ Inv T C σ9) 24 (fun ls H locs st hKp => ?_) (fun K9 => ?_)
  · revert hKp
    refine ex_eq (fun hKp => ?_)
    obtain ⟨rfl, hl, hP, hS, hI⟩ := hKp
    refine lv_aload_n hx hb dX1_becomes_24 rfl (lv_at hl 1 rfl) ?_
    refine gf_X1_43 hx hb hts hown hK hP dX1_becomes_25 ?_
    refine lv_iload_n hx hb dX1_becomes_28 rfl (lv_at hl 2 rfl) ?_
    refine lv_iload_n hx hb dX1_becomes_29 rfl (lv_at hl 3 rfl) ?_
    refine st_3 hx hb hK hq hP hS hp0 dX1_becomes_30 (fun H locs hP hS => ?_)
    have hI : Inv T C (sI (if (σ.1 3 (ix t)) = 1 then (sI σ 8 (ix (σ.1 0 (ix t))) (-1)) else σ) 3 (ix t) z9) := inv_sI (by decide) hI
    refine lv_iload_n hx hb dX1_becomes_31 rfl (lv_at hl 0 rfl) ?_
    exact rt_WI hQ hx hb hr hlocks (Eq.subst (motive := fun z => PP 1 E q z H) (show (sI (if (σ.1 3 (ix t)) = 1 then (sI σ 8 (ix (σ.1 0 (ix t))) (-1)) else σ) 3 (ix t) z9) = (g_X1_becomes T C σ t z9) from rfl) hP) hS ⟨rfl, ⟨Eq.subst (motive := fun z => Inv T C z) (show (sI (if (σ.1 3 (ix t)) = 1 then (sI σ 8 (ix (σ.1 0 (ix t))) (-1)) else σ) 3 (ix t) z9) = (g_X1_becomes T C σ t z9) from rfl) hI, trivial⟩⟩ dX1_becomes_32
  · refine lv_icmp_ne (tgt := 24) hx hb dX1_becomes_9 (by decide) (fun h9 => ?_) (fun h9 => ?_)
    · skip
      exact K9 _ _ _ _ ⟨σ, (Eq.symm (if_neg h9)), rfl, lv_sub hl [0, 1, 2, 3] rfl, hP, hS, hI⟩
    · skip
      refine lv_aload_n hx hb dX1_becomes_12 rfl (lv_at hl 1 rfl) ?_
      refine gf_X1_17 hx hb hts hown hK hP dX1_becomes_13 ?_
      refine lv_aload_n hx hb dX1_becomes_16 rfl (lv_at hl 1 rfl) ?_
      refine gf_X1_34 hx hb hts hown hK hP dX1_becomes_17 ?_
      refine lv_iload_n hx hb dX1_becomes_20 rfl (lv_at hl 2 rfl) ?_
      refine ld_0 hx hb hK hP hp0 dX1_becomes_21 ?_
      refine lv_iconst (v := -1) hx hb dX1_becomes_22 (by decide) ?_
      refine st_8 hx hb hK hq hP hS (hI.1 _) dX1_becomes_23 (fun H locs hP hS => ?_)
      have hI : Inv T C (sI σ 8 (ix (σ.1 0 (ix t))) (-1)) := inv_sI (by decide) hI
      exact K9 _ _ _ _ ⟨(sI σ 8 (ix (σ.1 0 (ix t))) (-1)), (Eq.symm (if_pos h9)), rfl, lv_sub hl [0, 1, 2, 3] rfl, hP, hS, hI⟩
def f_X1_taskCount (T C : Nat) (σ : St) : Int32 := ((sS σ 17 0).2.2 14)
def g_X1_taskCount (T C : Nat) (σ : St) : St := (sS σ 17 0)
def rm_X1_taskCount : Room := { frames := 0, cells := 0, slots := 0, locals := 0 }
set_option maxHeartbeats 1600000 in
set_option maxRecDepth 100000 in
theorem k_X1_taskCount (l : Launch) (E : Ev) (q : Nat → Nat) (hq : Dq q) {T C : Nat} (hT : T ≤ 16) (hC : 1 ≤ C ∧ C ≤ 4) (σ : St) (hI : Inv T C σ) : WI l 1 E q σ yX1_taskCount cX1_taskCount 1 (some .int) rm_X1_taskCount [] (f_X1_taskCount T C σ) (g_X1_taskCount T C σ) (Inv T C (g_X1_taskCount T C σ) ∧ True) := by
  refine Met.ofB (by decide) (Nat.le_of_ble_eq_true rfl) (fun p e s m args below meth c ls Q B hQ hPK hl => ?_)
  obtain ⟨hx, hb, hml, hr, hlocks, hown, hts⟩ := B
  have S0 : Fx p m c cX1_taskCount 1 s args RX1 := ⟨hx, hb, hml, hown, hts⟩
  obtain ⟨hP, hK⟩ := hPK
  suffices KH : ∀ (H : Heap) (locs : List Loc), PP 1 E q σ H → va_S (Aq q) s.heap H locs → W p l e rm_X1_taskCount s m args below meth c H locs 0 0 Q (F0 m 0 ls []) from KH s.heap [] hP va_S.rf
  intro H locs hP hS
  have hl : lv_has ls 1 [(0, .ref (q 0))] := hl
  have hI0 := hI
  refine lv_aload_n hx hb dX1_taskCount_0 rfl (lv_at hl 0 rfl) ?_
  refine lv_iconst (v := 0) hx hb dX1_taskCount_1 (by decide) ?_
  refine pf_X1_59 hx hb hts hown hK hq hP hS dX1_taskCount_2 (fun H locs hP hS => ?_)
  have hI : Inv T C (sS σ 17 0) := inv_sS (by decide) hI
  refine lv_aload_n hx hb dX1_taskCount_5 rfl (lv_at hl 0 rfl) ?_
  refine gf_X1_69 hx hb hts hown hK hP dX1_taskCount_6 ?_
  exact rt_WI hQ hx hb hr hlocks (Eq.subst (motive := fun z => PP 1 E q z H) (show (sS σ 17 0) = (g_X1_taskCount T C σ) from rfl) hP) hS ⟨rfl, ⟨Eq.subst (motive := fun z => Inv T C z) (show (sS σ 17 0) = (g_X1_taskCount T C σ) from rfl) hI, trivial⟩⟩ dX1_taskCount_9
def f_X1_stolenTasks (T C : Nat) (σ : St) : Int32 := ((sS σ 17 0).2.2 15)
def g_X1_stolenTasks (T C : Nat) (σ : St) : St := (sS σ 17 0)
def rm_X1_stolenTasks : Room := { frames := 0, cells := 0, slots := 0, locals := 0 }
set_option maxHeartbeats 1600000 in
set_option maxRecDepth 100000 in
theorem k_X1_stolenTasks (l : Launch) (E : Ev) (q : Nat → Nat) (hq : Dq q) {T C : Nat} (hT : T ≤ 16) (hC : 1 ≤ C ∧ C ≤ 4) (σ : St) (hI : Inv T C σ) : WI l 1 E q σ yX1_stolenTasks cX1_stolenTasks 1 (some .int) rm_X1_stolenTasks [] (f_X1_stolenTasks T C σ) (g_X1_stolenTasks T C σ) (Inv T C (g_X1_stolenTasks T C σ) ∧ True) := by
  refine Met.ofB (by decide) (Nat.le_of_ble_eq_true rfl) (fun p e s m args below meth c ls Q B hQ hPK hl => ?_)
  obtain ⟨hx, hb, hml, hr, hlocks, hown, hts⟩ := B
  have S0 : Fx p m c cX1_stolenTasks 1 s args RX1 := ⟨hx, hb, hml, hown, hts⟩
  obtain ⟨hP, hK⟩ := hPK
  suffices KH : ∀ (H : Heap) (locs : List Loc), PP 1 E q σ H → va_S (Aq q) s.heap H locs → W p l e rm_X1_stolenTasks s m args below meth c H locs 0 0 Q (F0 m 0 ls []) from KH s.heap [] hP va_S.rf
  intro H locs hP hS
  have hl : lv_has ls 1 [(0, .ref (q 0))] := hl
  have hI0 := hI
  refine lv_aload_n hx hb dX1_stolenTasks_0 rfl (lv_at hl 0 rfl) ?_
  refine lv_iconst (v := 0) hx hb dX1_stolenTasks_1 (by decide) ?_
  refine pf_X1_59 hx hb hts hown hK hq hP hS dX1_stolenTasks_2 (fun H locs hP hS => ?_)
  have hI : Inv T C (sS σ 17 0) := inv_sS (by decide) hI
  refine lv_aload_n hx hb dX1_stolenTasks_5 rfl (lv_at hl 0 rfl) ?_
  refine gf_X1_66 hx hb hts hown hK hP dX1_stolenTasks_6 ?_
  exact rt_WI hQ hx hb hr hlocks (Eq.subst (motive := fun z => PP 1 E q z H) (show (sS σ 17 0) = (g_X1_stolenTasks T C σ) from rfl) hP) hS ⟨rfl, ⟨Eq.subst (motive := fun z => Inv T C z) (show (sS σ 17 0) = (g_X1_stolenTasks T C σ) from rfl) hI, trivial⟩⟩ dX1_stolenTasks_9
def f_X1_thrown (T C : Nat) (σ : St) : Int32 := (σ.2.2 17)
def rm_X1_thrown : Room := { frames := 0, cells := 0, slots := 0, locals := 0 }
set_option maxHeartbeats 1600000 in
set_option maxRecDepth 100000 in
theorem k_X1_thrown (l : Launch) (E : Ev) (q : Nat → Nat) (hq : Dq q) {T C : Nat} (hT : T ≤ 16) (hC : 1 ≤ C ∧ C ≤ 4) (σ : St) (hI : Inv T C σ) : RI l 1 E q σ yX1_thrown cX1_thrown 1 (some .int) rm_X1_thrown [] (f_X1_thrown T C σ) True := by
  refine Met.ofB (by decide) (Nat.le_of_ble_eq_true rfl) (fun p e s m args below meth c ls Q B hQ hPK hl => ?_)
  obtain ⟨hx, hb, hml, hr, hlocks, hown, hts⟩ := B
  have S0 : Fx p m c cX1_thrown 1 s args RX1 := ⟨hx, hb, hml, hown, hts⟩
  obtain ⟨hP, hK⟩ := hPK
  have hl : lv_has ls 1 [(0, .ref (q 0))] := hl
  have hI0 := hI
  refine lv_aload_n hx hb dX1_thrown_0 rfl (lv_at hl 0 rfl) ?_
  refine gf_X1_59 hx hb hts hown hK hP dX1_thrown_1 ?_
  exact rt_RI hQ hx hb hr hlocks ⟨rfl, trivial⟩ dX1_thrown_4
def f_X1_setStealing (T C : Nat) (σ : St) (b9 : Int32) : Int32 := ((sS σ 17 0).2.2 16)
def g_X1_setStealing (T C : Nat) (σ : St) (b9 : Int32) : St := (sS (sS σ 17 0) 16 b9)
def rm_X1_setStealing : Room := { frames := 0, cells := 0, slots := 0, locals := 0 }
set_option maxHeartbeats 1600000 in
set_option maxRecDepth 100000 in
theorem k_X1_setStealing (l : Launch) (E : Ev) (q : Nat → Nat) (hq : Dq q) {T C : Nat} (hT : T ≤ 16) (hC : 1 ≤ C ∧ C ≤ 4) (σ : St) (hI : Inv T C σ) (b9 : Int32) (hp0 : b9 = 0 ∨ b9 = 1) (hp1 : σ.2.2 16 = 0 ∨ σ.2.2 16 = 1) : WI l 1 E q σ yX1_setStealing cX1_setStealing 3 (some .boolean) rm_X1_setStealing [.int b9] (f_X1_setStealing T C σ b9) (g_X1_setStealing T C σ b9) (Inv T C (g_X1_setStealing T C σ b9) ∧ True) := by
  refine Met.ofB (by decide) (Nat.le_of_ble_eq_true rfl) (fun p e s m args below meth c ls Q B hQ hPK hl => ?_)
  obtain ⟨hx, hb, hml, hr, hlocks, hown, hts⟩ := B
  have S0 : Fx p m c cX1_setStealing 3 s args RX1 := ⟨hx, hb, hml, hown, hts⟩
  obtain ⟨hP, hK⟩ := hPK
  suffices KH : ∀ (H : Heap) (locs : List Loc), PP 1 E q σ H → va_S (Aq q) s.heap H locs → W p l e rm_X1_setStealing s m args below meth c H locs 0 0 Q (F0 m 0 ls []) from KH s.heap [] hP va_S.rf
  intro H locs hP hS
  have hl : lv_has ls 3 [(0, .ref (q 0)), (1, .int b9)] := hl
  have hI0 := hI
  refine lv_aload_n hx hb dX1_setStealing_0 rfl (lv_at hl 0 rfl) ?_
  refine lv_iconst (v := 0) hx hb dX1_setStealing_1 (by decide) ?_
  refine pf_X1_59 hx hb hts hown hK hq hP hS dX1_setStealing_2 (fun H locs hP hS => ?_)
  have hI : Inv T C (sS σ 17 0) := inv_sS (by decide) hI
  refine lv_aload_n hx hb dX1_setStealing_5 rfl (lv_at hl 0 rfl) ?_
  refine gf_X1_62 hx hb hts hown hK hP dX1_setStealing_6 ?_
  refine lv_istore_n (lv' := [(2, .int ((sS σ 17 0).2.2 16)), (0, .ref (q 0)), (1, .int b9)]) hx hb dX1_setStealing_9 rfl hl (by decide) rfl (fun ls hl => ?_)
  refine lv_aload_n hx hb dX1_setStealing_10 rfl (lv_at hl 1 rfl) ?_
  refine lv_iload_n hx hb dX1_setStealing_11 rfl (lv_at hl 2 rfl) ?_
  refine pf_X1_62 hx hb hts hown hK hq hP hS (nbf (by first | assumption | decide)) dX1_setStealing_12 (fun H locs hP hS => ?_)
  have hI : Inv T C (sS (sS σ 17 0) 16 b9) := inv_sS (by decide) hI
  refine lv_iload_n hx hb dX1_setStealing_15 rfl (lv_at hl 0 rfl) ?_
  exact rt_WZ hQ hx hb hr hlocks (nbf (show (sS σ 17 0).2.2 16 = 0 ∨ (sS σ 17 0).2.2 16 = 1 from hp1)).1 (Eq.subst (motive := fun z => PP 1 E q z H) (show (sS (sS σ 17 0) 16 b9) = (g_X1_setStealing T C σ b9) from rfl) hP) hS ⟨rfl, ⟨Eq.subst (motive := fun z => Inv T C z) (show (sS (sS σ 17 0) 16 b9) = (g_X1_setStealing T C σ b9) from rfl) hI, trivial⟩⟩ dX1_setStealing_16
