/-! the reference's share -/
def g_X1_share (T C : Nat) (σ : St) (t : Int32) : St := (g_X1_isRefused T C σ (f_X1_noTask T C σ t) 0)
def f_X1_share (T C : Nat) (σ : St) (t : Int32) : UInt64 := (if (f_X1_isRefused T C σ (f_X1_noTask T C σ t) 0) = 0 then sv (σ.1 5 (ix t)) (σ.1 6 (ix t)) else FP.dconst0)
def WD (l : Launch) (k : Nat) (E : Ev) (q : Nat → Nat) (σ : St) (y : MethodName) (cc : ByteArray) (n : Nat) (r : Option FieldType) (rm : Room) (As : List Value) (v : UInt64) (σ' : St) : Prop := Met l y (ws_ y cc n r) rm (preF k E q σ As) (va_Qd (fun w (_ : Unit) => w = v) (fun _ t => PP k E q σ' t.heap) (Aq q)) 0 0 (Aq q)
theorem isRef_rows (T C : Nat) (σ : St) (A B : Int32) : (g_X1_isRefused T C σ A B).1 = σ.1 := by rw [isRef_g]; rfl
def rm_X1_share : Room := { frames := 4, cells := 0, slots := 0, locals := 100 }
set_option maxHeartbeats 400000 in
theorem k_X1_share (fl : FLs) (l : Launch) (E : Ev) (q : Nat → Nat) (hq : Dq q) {T C : Nat} (hT : T ≤ 16) (hC : 1 ≤ C ∧ C ≤ 4) (σ : St) (hI : Inv T C σ) (hR : Rw 51200 σ) (t : Int32) : WD l 1 E q σ yX1_share cX1_share 2 (some .double) rm_X1_share [.int t] (f_X1_share T C σ t) (g_X1_share T C σ t) := by
  refine Met.ofB (by decide) (Nat.le_of_ble_eq_true rfl) (fun p e s m args below meth c ls Q B hQ hPK hl => ?_)
  obtain ⟨hx, hb, hml, hr, hlocks, hown, hts⟩ := B
  have S0 : Fx p m c cX1_share 2 s args RX1 := ⟨hx, hb, hml, hown, hts⟩
  obtain ⟨hP, hK⟩ := hPK
  suffices KH : ∀ (H : Heap) (locs : List Loc), PP 1 E q σ H → va_S (Aq q) s.heap H locs → W p l e rm_X1_share s m args below meth c H locs 0 0 Q (F0 m 0 ls []) from KH s.heap [] hP va_S.rf
  intro H locs hP hS
  have hl : lv_has ls 2 [(0, .ref (q 0)), (1, .int t)] := hl
  have hI0 := hI
  obtain ⟨a, b, h1, h2, h3⟩ := hR (ix t)
  obtain ⟨-, -, f3⟩ := fl a b h3
  rw [← h1, ← h2] at f3
  have hs0 := sum0 h1 h2 h3
  refine lv_aload_n hx hb dX1_share_0 rfl (lv_at hl 0 rfl) ?_
  refine lv_aload_n hx hb dX1_share_1 rfl (lv_at hl 0 rfl) ?_
  refine lv_iload_n hx hb dX1_share_2 rfl (lv_at hl 1 rfl) ?_
  refine cl_RI (k_X1_noTask l E q hq hT hC σ hI t) gw_X1_134 hd_X1_noTask ⟨rfl, rfl⟩ S0 hK hP (rest := [.ref (q 0)]) rfl hl.1 (Nat.le_of_ble_eq_true rfl) ⟨(Nat.le_of_ble_eq_true rfl), (Nat.le_of_ble_eq_true rfl)⟩ ⟨Nat.zero_le _, Nat.zero_le _⟩ dX1_share_3 (fun hex => ?_)
  refine lv_iconst (v := 0) hx hb dX1_share_6 (by decide) ?_
  refine cl_WI (k_X1_isRefused l E q hq hT hC σ hI (f_X1_noTask T C σ t) 0) gw_X1_78 hd_X1_isRefused ⟨rfl, rfl⟩ S0 hK hP hS (rest := []) rfl hl.1 (Nat.le_of_ble_eq_true rfl) ⟨(Nat.le_of_ble_eq_true rfl), (Nat.le_of_ble_eq_true rfl)⟩ ⟨Nat.zero_le _, Nat.zero_le _⟩ dX1_share_7 (fun H locs hP hS hex => ?_)
  have hrow := isRef_rows T C σ (f_X1_noTask T C σ t) 0
  have ret : ∀ (pc : Nat) (v : UInt64), v = f_X1_share T C σ t → decode cX1_share pc = .ok (.dreturn, 1) → W p l e rm_X1_share s m args below meth c H locs 0 0 Q (F0 m pc ls [.double v]) := fun pc v hv hdg => hQ ▸ W.dret hx hb hr (fun t9 ht _ => ⟨⟨v, (), rfl, hv, by show PP _ _ _ _ t9.heap; rw [ht]; exact hP⟩, hS.F ht⟩) hS.2.2 hdg hlocks
  refine lv_if_ne (tgt := 29) hx hb dX1_share_10 (by decide) (fun h10 => ?_) (fun h10 => ?_)
  · refine lv_dconst0 hx hb dX1_share_29 ?_
    exact ret _ _ (by unfold f_X1_share; rw [if_neg h10]) dX1_share_30
  · have hin := inT hI0 hT (ref0 h10).1
    refine lv_aload_n hx hb dX1_share_13 rfl (lv_at hl 0 rfl) ?_
    refine gf_X1_49 hx hb hts hown hK hP dX1_share_14 ?_
    refine lv_iload_n hx hb dX1_share_17 rfl (lv_at hl 1 rfl) ?_
    refine ld_5 hx hb hK hP hin dX1_share_18 ?_
    refine lv_aload_n hx hb dX1_share_19 rfl (lv_at hl 0 rfl) ?_
    refine gf_X1_52 hx hb hts hown hK hP dX1_share_20 ?_
    refine lv_iload_n hx hb dX1_share_23 rfl (lv_at hl 1 rfl) ?_
    refine ld_6 hx hb hK hP hin dX1_share_24 ?_
    refine lv_iadd hx hb dX1_share_25 ?_
    rw [hrow]
    refine lv_if_ne (tgt := 31) hx hb dX1_share_26 (by decide) (fun h26 => ?_) (fun h26 => ?_)
    · refine lv_aload_n hx hb dX1_share_31 rfl (lv_at hl 0 rfl) ?_
      refine gf_X1_49 hx hb hts hown hK hP dX1_share_32 ?_
      refine lv_iload_n hx hb dX1_share_35 rfl (lv_at hl 1 rfl) ?_
      refine ld_5 hx hb hK hP hin dX1_share_36 ?_
      refine lv_i2d hx hb dX1_share_37 ?_
      refine lv_aload_n hx hb dX1_share_38 rfl (lv_at hl 0 rfl) ?_
      refine gf_X1_49 hx hb hts hown hK hP dX1_share_39 ?_
      refine lv_iload_n hx hb dX1_share_42 rfl (lv_at hl 1 rfl) ?_
      refine ld_5 hx hb hK hP hin dX1_share_43 ?_
      refine lv_aload_n hx hb dX1_share_44 rfl (lv_at hl 0 rfl) ?_
      refine gf_X1_52 hx hb hts hown hK hP dX1_share_45 ?_
      refine lv_iload_n hx hb dX1_share_48 rfl (lv_at hl 1 rfl) ?_
      refine ld_6 hx hb hK hP hin dX1_share_49 ?_
      refine lv_iadd hx hb dX1_share_50 ?_
      refine lv_i2d hx hb dX1_share_51 ?_
      rw [hrow]
      obtain ⟨-, -, f5⟩ := f3 (fun q9 => h26 (hs0.mpr q9))
      refine lv_ddiv hx hb dX1_share_52 f5 ?_
      exact ret _ _ (by unfold f_X1_share sv; rw [if_pos h10, if_neg h26]) dX1_share_53
    · refine lv_dconst0 hx hb dX1_share_29 ?_
      exact ret _ _ (by unfold f_X1_share sv; rw [if_pos h10, if_pos h26]) dX1_share_30
