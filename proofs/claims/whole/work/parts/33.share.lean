/-! share, by what the doubles must keep (FLs) -/
def dS (x y : Int32) : UInt64 := FP.dadd (FP.i2d x) (FP.i2d y)
def FLs : Prop := ∀ a b : Nat, a + b ≤ 51200 → vf_n64 (dS (nI a) (nI b)) ∧ (a + b = 0 → Op.cmpValue (FP.dcmp (dS (nI a) (nI b)) FP.dconst0) .l ≤ 0) ∧ (¬ a + b = 0 → ¬ Op.cmpValue (FP.dcmp (dS (nI a) (nI b)) FP.dconst0) .l ≤ 0 ∧ dS (nI a) (nI b) = FP.i2d (nI a + nI b) ∧ vf_n64 (FP.ddiv (FP.i2d (nI a)) (FP.i2d (nI a + nI b))))
def sv (x y : Int32) : UInt64 := if x + y = 0 then FP.dconst0 else FP.ddiv (FP.i2d x) (FP.i2d (x + y))
def e_X0_share (T C : Nat) (σ : St) (t : Int32) : Int32 := (if (e_X0_checkTask T C σ t) = 0 then 0 else 1)
def RD (l : Launch) (k : Nat) (E : Ev) (q : Nat → Nat) (σ : St) (y : MethodName) (cc : ByteArray) (n : Nat) (r : Option FieldType) (rm : Room) (As : List Value) (v : UInt64) : Prop := Met l y (ws_ y cc n r) rm (preF k E q σ As) (vp_Sd (fun w => w = v)) 0 0 (fun _ => False)
theorem sum0 {x y : Int32} {a b : Nat} (h1 : x = nI a) (h2 : y = nI b) (h : a + b ≤ 51200) : x + y = 0 ↔ a + b = 0 := by
  rw [h1, h2, nI_add]
  constructor
  · intro q
    by_cases h0 : a + b = 0
    · exact h0
    · exact absurd q (nI_ne0 (by omega) (by omega))
  · intro q; rw [q]; rfl
def rm_X0_share : Room := { frames := 2, cells := 0, slots := 0, locals := 60 }
set_option maxHeartbeats 400000 in
theorem k_X0_share (fl : FLs) (l : Launch) (E : Ev) (q : Nat → Nat) (hq : Dq q) {T C : Nat} (hT : T ≤ 16) (hC : 1 ≤ C ∧ C ≤ 4) (σ : St) (hI : Inv T C σ) (hR : Rw 51200 σ) (t : Int32) (he : (e_X0_share T C σ t) = 0) : RD l 0 E q σ yX0_share cX0_share 6 (some .double) rm_X0_share [.int t] (sv (σ.1 5 (ix t)) (σ.1 6 (ix t))) := by
  refine Met.ofB (by decide) (Nat.le_of_ble_eq_true rfl) (fun p e s m args below meth c ls Q B hQ hPK hl => ?_)
  obtain ⟨hx, hb, hml, hr, hlocks, hown, hts⟩ := B
  have S0 : Fx p m c cX0_share 6 s args RX0 := ⟨hx, hb, hml, hown, hts⟩
  obtain ⟨hP, hK⟩ := hPK
  have hl : lv_has ls 6 [(0, .ref (q 0)), (1, .int t)] := hl
  obtain ⟨a, b, h1, h2, h3⟩ := hR (ix t)
  obtain ⟨f1, f2, f3⟩ := fl a b h3
  rw [← h1, ← h2] at f1 f2 f3
  have hs0 := sum0 h1 h2 h3
  refine lv_aload_n hx hb dX0_share_0 rfl (lv_at hl 0 rfl) ?_
  refine lv_iload_n hx hb dX0_share_1 rfl (lv_at hl 1 rfl) ?_
  by_cases hc2 : (e_X0_checkTask T C σ t) = 0
  · have hin := inT0 hI hT hc2
    refine cl_RV (k_X0_checkTask l E q hq hT hC σ hI t hc2) gw_X0_96 hd_X0_checkTask ⟨rfl, rfl⟩ S0 hK hP (rest := []) rfl hl.1 (Nat.le_of_ble_eq_true rfl) ⟨(Nat.le_of_ble_eq_true rfl), (Nat.le_of_ble_eq_true rfl)⟩ ⟨Nat.zero_le _, Nat.zero_le _⟩ dX0_share_2 (fun _ => ?_)
    refine lv_aload_n hx hb dX0_share_5 rfl (lv_at hl 0 rfl) ?_
    refine gf_X0_26 hx hb hts hown hK hP dX0_share_6 ?_
    refine lv_iload_n hx hb dX0_share_9 rfl (lv_at hl 1 rfl) ?_
    refine ld_5 hx hb hK hP hin dX0_share_10 ?_
    refine lv_i2d hx hb dX0_share_11 ?_
    refine lv_dstore_n (i := 2) hx hb dX0_share_12 rfl hl (by decide) rfl (fun ls hl => ?_)
    refine lv_dload_n hx hb dX0_share_13 rfl (lv_at hl 0 rfl) ?_
    refine lv_aload_n hx hb dX0_share_14 rfl (lv_at hl 1 rfl) ?_
    refine gf_X0_29 hx hb hts hown hK hP dX0_share_15 ?_
    refine lv_iload_n hx hb dX0_share_18 rfl (lv_at hl 2 rfl) ?_
    refine ld_6 hx hb hK hP hin dX0_share_19 ?_
    refine lv_i2d hx hb dX0_share_20 ?_
    refine lv_dadd hx hb dX0_share_21 f1 ?_
    refine lv_dstore hx hb dX0_share_22 hl (by decide) rfl (fun ls hl => ?_)
    refine lv_dload hx hb dX0_share_24 (lv_at hl 0 rfl) ?_
    refine lv_dconst0 hx hb dX0_share_26 ?_
    refine lv_dcmp hx hb dX0_share_27 ?_
    refine lv_if_le (tgt := 38) hx hb dX0_share_28 (by decide) (fun h => ?_) (fun h => ?_)
    · have h0 : a + b = 0 := Decidable.byContradiction (fun q9 => (f3 q9).1 h)
      refine lv_dconst0 hx hb dX0_share_38 ?_
      exact hQ ▸ W.dret hx hb hr (fun t9 ht _ => ⟨_, rfl, (show FP.dconst0 = sv _ _ by unfold sv; rw [if_pos (hs0.mpr h0)]), ht⟩) (fun _ h => nomatch h) dX0_share_39 hlocks
    · have h0 : ¬ a + b = 0 := fun q9 => h (f2 q9)
      obtain ⟨-, f4, f5⟩ := f3 h0
      refine lv_dload_n hx hb dX0_share_31 rfl (lv_at hl 1 rfl) ?_
      refine lv_dload hx hb dX0_share_32 (lv_at hl 0 rfl) ?_
      refine lv_ddiv hx hb dX0_share_34 (by show vf_n64 (FP.ddiv _ (dS _ _)); rw [f4]; exact f5) ?_
      refine lv_goto (tgt := 39) hx hb dX0_share_35 rfl ?_
      exact hQ ▸ W.dret hx hb hr (fun t9 ht _ => ⟨_, rfl, (show FP.ddiv _ (dS _ _) = sv _ _ by unfold sv; rw [if_neg (fun q9 => h0 (hs0.mp q9)), f4]), ht⟩) (fun _ h => nomatch h) dX0_share_39 hlocks
  · exact absurd (Eq.trans (Eq.symm (show (e_X0_share T C σ t) = 1 from (if_neg hc2))) he) (by decide)
def rt_X0_share : Room := { frames := 7, cells := 1, slots := 6, locals := 103 }
set_option maxHeartbeats 400000 in
set_option maxRecDepth 100000 in
theorem t_X0_share (l : Launch) (hst : l.stackTraces = false) (E : Ev) (q : Nat → Nat) (hq : Dq q) {T C : Nat} (hT : T ≤ 16) (hC : 1 ≤ C ∧ C ≤ 4) (σ : St) (hI : Inv T C σ) (t : Int32) (he : ¬ (e_X0_share T C σ t) = 0) : TX l E q σ yX0_share cX0_share 6 (some .double) rt_X0_share [.int t] xISE (e_X0_share T C σ t) := by
  refine vx_ofB (by decide) (Nat.le_of_ble_eq_true rfl) (fun p e s m args below meth c ls Q B hta hQ hPK hl => ?_)
  obtain ⟨hx, hb, hml, hr, hlocks, hown, hts⟩ := B
  have S0 : Fx p m c cX0_share 6 s args RX0 := ⟨hx, hb, hml, hown, hts⟩
  obtain ⟨hP, hK, hX⟩ := hPK
  have hl : lv_has ls 6 [(0, .ref (q 0)), (1, .int t)] := hl
  have hI0 := hI
  refine lv_aload_n hx hb dX0_share_0 rfl (lv_at hl 0 rfl) ?_
  refine lv_iload_n hx hb dX0_share_1 rfl (lv_at hl 1 rfl) ?_
  by_cases hc2 : (e_X0_checkTask T C σ t) = 0
  · skip
    refine cl_RV (k_X0_checkTask l E q hq hT hC σ hI t  hc2) gw_X0_96 hd_X0_checkTask ⟨rfl, rfl⟩ S0 hK hP (rest := []) rfl hl.1 (Nat.le_of_ble_eq_true rfl) ⟨(Nat.le_of_ble_eq_true rfl), (Nat.le_of_ble_eq_true rfl)⟩ ⟨Nat.zero_le _, Nat.zero_le _⟩ dX0_share_2 (fun _ => ?_)
    exact absurd (show (e_X0_share T C σ t) = 0 from (if_pos hc2)) he
  · skip
    exact cx_V hQ (t_X0_checkTask l hst E q hq hT hC σ hI t  hc2) gw_X0_96 hd_X0_checkTask ⟨rfl, rfl⟩ S0 hK hP hX hta hlocks (rest := []) rfl hl.1 (Nat.le_of_ble_eq_true rfl) ⟨(Nat.le_of_ble_eq_true rfl), (Nat.le_of_ble_eq_true rfl)⟩ ⟨(Nat.le_of_ble_eq_true rfl), (Nat.le_of_ble_eq_true rfl)⟩ dX0_share_2 (xnc (ck_X0_checkTask hc2) (show (e_X0_share T C σ t) = 1 from (if_neg hc2)) rfl)
