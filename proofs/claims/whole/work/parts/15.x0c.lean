theorem xnc {X2 X3 : String} {a b k : Int32} (h1 : a = k) (h2 : b = k) (hk : xn X2 k = xn X3 k) : xn X2 a = xn X3 b := by rw [h1, h2]; exact hk
theorem xn1 {X2 : String} {c : Int32} (h : c = 1) : xIAE = xn X2 c := by rw [h]; rfl
theorem xn2 {X2 : String} {c : Int32} (h : c = 2) : X2 = xn X2 c := by rw [h]; rfl
theorem fnd_ne {i : Nat} {r : Int32} (h : nI i = r) (hi : i < 16) : ¬ r = (-1) := by
  rw [← h]
  intro e
  have h1 := nI_pos (n := i) (by omega)
  rw [e] at h1
  exact h1 (by decide)
def e_X0_checkTask (T C : Nat) (σ : St) (t : Int32) : Int32 := (if t < 0 then 1 else (if t < (σ.2.2 14) then 0 else 1))
theorem ck_X0_checkTask {T C : Nat} {σ : St} {t : Int32} (h : ¬ (e_X0_checkTask T C σ t) = 0) : (e_X0_checkTask T C σ t) = 1 := by
  unfold e_X0_checkTask at h ⊢
  repeat (first | (exact absurd rfl h) | rfl | split at h | split)
def rm_X0_checkTask : Room := { frames := 0, cells := 0, slots := 0, locals := 0 }
set_option maxHeartbeats 1600000 in
set_option maxRecDepth 100000 in
theorem k_X0_checkTask (l : Launch) (E : Ev) (q : Nat → Nat) (hq : Dq q) {T C : Nat} (hT : T ≤ 16) (hC : 1 ≤ C ∧ C ≤ 4) (σ : St) (hI : Inv T C σ) (t : Int32) (he : (e_X0_checkTask T C σ t) = 0) : RV l 0 E q σ yX0_checkTask cX0_checkTask 2 none rm_X0_checkTask [.int t]  True := by
  refine Met.ofB (by decide) (Nat.le_of_ble_eq_true rfl) (fun p e s m args below meth c ls Q B hQ hPK hl => ?_)
  obtain ⟨hx, hb, hml, hr, hlocks, hown, hts⟩ := B
  have S0 : Fx p m c cX0_checkTask 2 s args RX0 := ⟨hx, hb, hml, hown, hts⟩
  obtain ⟨hP, hK⟩ := hPK
  have hl : lv_has ls 2 [(0, .ref (q 0)), (1, .int t)] := hl
  have hI0 := hI
  refine lv_iload_n hx hb dX0_checkTask_0 rfl (lv_at hl 1 rfl) ?_
  refine lv_if_lt (tgt := 12) hx hb dX0_checkTask_1 (by decide) (fun h1 => ?_) (fun h1 => ?_)
  · skip
    exact absurd (Eq.trans (Eq.symm (show (e_X0_checkTask T C σ t) = 1 from (if_pos h1))) he) (by decide)
  · skip
    refine lv_iload_n hx hb dX0_checkTask_4 rfl (lv_at hl 1 rfl) ?_
    refine lv_aload_n hx hb dX0_checkTask_5 rfl (lv_at hl 0 rfl) ?_
    refine gf_X0_85 hx hb hts hown hK hP dX0_checkTask_6 ?_
    refine lv_icmp_lt (tgt := 22) hx hb dX0_checkTask_9 (by decide) (fun h9 => ?_) (fun h9 => ?_)
    · skip
      exact rt_RV hQ hx hb hr hlocks trivial dX0_checkTask_22
    · skip
      exact absurd (Eq.trans (Eq.symm (show (e_X0_checkTask T C σ t) = 1 from (Eq.trans (if_neg h1) (if_neg h9)))) he) (by decide)
def rt_X0_checkTask : Room := { frames := 6, cells := 1, slots := 6, locals := 82 }
set_option maxHeartbeats 1600000 in
set_option maxRecDepth 100000 in
theorem t_X0_checkTask (l : Launch) (hst : l.stackTraces = false) (E : Ev) (q : Nat → Nat) (hq : Dq q) {T C : Nat} (hT : T ≤ 16) (hC : 1 ≤ C ∧ C ≤ 4) (σ : St) (hI : Inv T C σ) (t : Int32) (he : ¬ (e_X0_checkTask T C σ t) = 0) : TX l E q σ yX0_checkTask cX0_checkTask 2 none rt_X0_checkTask [.int t] xISE (e_X0_checkTask T C σ t) := by
  refine vx_ofB (by decide) (Nat.le_of_ble_eq_true rfl) (fun p e s m args below meth c ls Q B hta hQ hPK hl => ?_)
  obtain ⟨hx, hb, hml, hr, hlocks, hown, hts⟩ := B
  have S0 : Fx p m c cX0_checkTask 2 s args RX0 := ⟨hx, hb, hml, hown, hts⟩
  obtain ⟨hP, hK, hX⟩ := hPK
  have hl : lv_has ls 2 [(0, .ref (q 0)), (1, .int t)] := hl
  have hI0 := hI
  refine lv_iload_n hx hb dX0_checkTask_0 rfl (lv_at hl 1 rfl) ?_
  refine lv_if_lt (tgt := 12) hx hb dX0_checkTask_1 (by decide) (fun h1 => ?_) (fun h1 => ?_)
  · skip
    exact tx_new (cls := xIAE) (text := "there is no such task") (ik := 55) (is := 145) (ic := 59) hQ hx hb hst hown hts hX hta hlocks (by decide) cl_X0_55 ini_IllegalArgumentException (by decide) at_IAE ng_IAE ot_IAE (hl.1.trans hml.symm) dX0_checkTask_12 dX0_checkTask_15 dX0_checkTask_16 dX0_checkTask_18 dX0_checkTask_21 (Nat.le_of_ble_eq_true rfl) (Nat.le_of_ble_eq_true rfl) ⟨(Nat.le_of_ble_eq_true rfl), (Nat.le_of_ble_eq_true rfl)⟩ (xn1 (show (e_X0_checkTask T C σ t) = 1 from (if_pos h1)))
  · skip
    refine lv_iload_n hx hb dX0_checkTask_4 rfl (lv_at hl 1 rfl) ?_
    refine lv_aload_n hx hb dX0_checkTask_5 rfl (lv_at hl 0 rfl) ?_
    refine gf_X0_85 hx hb hts hown hK hP dX0_checkTask_6 ?_
    refine lv_icmp_lt (tgt := 22) hx hb dX0_checkTask_9 (by decide) (fun h9 => ?_) (fun h9 => ?_)
    · skip
      exact absurd (show (e_X0_checkTask T C σ t) = 0 from (Eq.trans (if_neg h1) (if_pos h9))) he
    · skip
      exact tx_new (cls := xIAE) (text := "there is no such task") (ik := 55) (is := 145) (ic := 59) hQ hx hb hst hown hts hX hta hlocks (by decide) cl_X0_55 ini_IllegalArgumentException (by decide) at_IAE ng_IAE ot_IAE (hl.1.trans hml.symm) dX0_checkTask_12 dX0_checkTask_15 dX0_checkTask_16 dX0_checkTask_18 dX0_checkTask_21 (Nat.le_of_ble_eq_true rfl) (Nat.le_of_ble_eq_true rfl) ⟨(Nat.le_of_ble_eq_true rfl), (Nat.le_of_ble_eq_true rfl)⟩ (xn1 (show (e_X0_checkTask T C σ t) = 1 from (Eq.trans (if_neg h1) (if_neg h9))))
def e_X0_checkCpu (T C : Nat) (σ : St) (c9 : Int32) : Int32 := (if c9 < 0 then 1 else (if c9 < (f_X0_cpuTotal T C σ) then 0 else 1))
theorem ck_X0_checkCpu {T C : Nat} {σ : St} {c9 : Int32} (h : ¬ (e_X0_checkCpu T C σ c9) = 0) : (e_X0_checkCpu T C σ c9) = 1 := by
  unfold e_X0_checkCpu at h ⊢
  repeat (first | (exact absurd rfl h) | rfl | split at h | split)
def rm_X0_checkCpu : Room := { frames := 1, cells := 0, slots := 0, locals := 20 }
set_option maxHeartbeats 1600000 in
set_option maxRecDepth 100000 in
theorem k_X0_checkCpu (l : Launch) (E : Ev) (q : Nat → Nat) (hq : Dq q) {T C : Nat} (hT : T ≤ 16) (hC : 1 ≤ C ∧ C ≤ 4) (σ : St) (hI : Inv T C σ) (c9 : Int32) (he : (e_X0_checkCpu T C σ c9) = 0) : RV l 0 E q σ yX0_checkCpu cX0_checkCpu 2 none rm_X0_checkCpu [.int c9]  True := by
  refine Met.ofB (by decide) (Nat.le_of_ble_eq_true rfl) (fun p e s m args below meth c ls Q B hQ hPK hl => ?_)
  obtain ⟨hx, hb, hml, hr, hlocks, hown, hts⟩ := B
  have S0 : Fx p m c cX0_checkCpu 2 s args RX0 := ⟨hx, hb, hml, hown, hts⟩
  obtain ⟨hP, hK⟩ := hPK
  have hl : lv_has ls 2 [(0, .ref (q 0)), (1, .int c9)] := hl
  have hI0 := hI
  refine lv_iload_n hx hb dX0_checkCpu_0 rfl (lv_at hl 1 rfl) ?_
  refine lv_if_lt (tgt := 12) hx hb dX0_checkCpu_1 (by decide) (fun h1 => ?_) (fun h1 => ?_)
  · skip
    exact absurd (Eq.trans (Eq.symm (show (e_X0_checkCpu T C σ c9) = 1 from (if_pos h1))) he) (by decide)
  · skip
    refine lv_iload_n hx hb dX0_checkCpu_4 rfl (lv_at hl 1 rfl) ?_
    refine lv_aload_n hx hb dX0_checkCpu_5 rfl (lv_at hl 0 rfl) ?_
    refine cl_RI (k_X0_cpuTotal l E q hq hT hC σ hI ) gw_X0_147 hd_X0_cpuTotal ⟨rfl, rfl⟩ S0 hK hP (rest := [.int c9]) rfl hl.1 (Nat.le_of_ble_eq_true rfl) ⟨(Nat.le_of_ble_eq_true rfl), (Nat.le_of_ble_eq_true rfl)⟩ ⟨Nat.zero_le _, Nat.zero_le _⟩ dX0_checkCpu_6 (fun hex => ?_)
    refine lv_icmp_lt (tgt := 22) hx hb dX0_checkCpu_9 (by decide) (fun h9 => ?_) (fun h9 => ?_)
    · skip
      exact rt_RV hQ hx hb hr hlocks trivial dX0_checkCpu_22
    · skip
      exact absurd (Eq.trans (Eq.symm (show (e_X0_checkCpu T C σ c9) = 1 from (Eq.trans (if_neg h1) (if_neg h9)))) he) (by decide)
def rt_X0_checkCpu : Room := { frames := 6, cells := 1, slots := 6, locals := 82 }
set_option maxHeartbeats 1600000 in
set_option maxRecDepth 100000 in
theorem t_X0_checkCpu (l : Launch) (hst : l.stackTraces = false) (E : Ev) (q : Nat → Nat) (hq : Dq q) {T C : Nat} (hT : T ≤ 16) (hC : 1 ≤ C ∧ C ≤ 4) (σ : St) (hI : Inv T C σ) (c9 : Int32) (he : ¬ (e_X0_checkCpu T C σ c9) = 0) : TX l E q σ yX0_checkCpu cX0_checkCpu 2 none rt_X0_checkCpu [.int c9] xISE (e_X0_checkCpu T C σ c9) := by
  refine vx_ofB (by decide) (Nat.le_of_ble_eq_true rfl) (fun p e s m args below meth c ls Q B hta hQ hPK hl => ?_)
  obtain ⟨hx, hb, hml, hr, hlocks, hown, hts⟩ := B
  have S0 : Fx p m c cX0_checkCpu 2 s args RX0 := ⟨hx, hb, hml, hown, hts⟩
  obtain ⟨hP, hK, hX⟩ := hPK
  have hl : lv_has ls 2 [(0, .ref (q 0)), (1, .int c9)] := hl
  have hI0 := hI
  refine lv_iload_n hx hb dX0_checkCpu_0 rfl (lv_at hl 1 rfl) ?_
  refine lv_if_lt (tgt := 12) hx hb dX0_checkCpu_1 (by decide) (fun h1 => ?_) (fun h1 => ?_)
  · skip
    exact tx_new (cls := xIAE) (text := "there is no such CPU") (ik := 55) (is := 150) (ic := 59) hQ hx hb hst hown hts hX hta hlocks (by decide) cl_X0_55 ini_IllegalArgumentException (by decide) at_IAE ng_IAE ot_IAE (hl.1.trans hml.symm) dX0_checkCpu_12 dX0_checkCpu_15 dX0_checkCpu_16 dX0_checkCpu_18 dX0_checkCpu_21 (Nat.le_of_ble_eq_true rfl) (Nat.le_of_ble_eq_true rfl) ⟨(Nat.le_of_ble_eq_true rfl), (Nat.le_of_ble_eq_true rfl)⟩ (xn1 (show (e_X0_checkCpu T C σ c9) = 1 from (if_pos h1)))
  · skip
    refine lv_iload_n hx hb dX0_checkCpu_4 rfl (lv_at hl 1 rfl) ?_
    refine lv_aload_n hx hb dX0_checkCpu_5 rfl (lv_at hl 0 rfl) ?_
    refine cl_RI (k_X0_cpuTotal l E q hq hT hC σ hI ) gw_X0_147 hd_X0_cpuTotal ⟨rfl, rfl⟩ S0 hK hP (rest := [.int c9]) rfl hl.1 (Nat.le_of_ble_eq_true rfl) ⟨(Nat.le_of_ble_eq_true rfl), (Nat.le_of_ble_eq_true rfl)⟩ ⟨Nat.zero_le _, Nat.zero_le _⟩ dX0_checkCpu_6 (fun hex => ?_)
    refine lv_icmp_lt (tgt := 22) hx hb dX0_checkCpu_9 (by decide) (fun h9 => ?_) (fun h9 => ?_)
    · skip
      exact absurd (show (e_X0_checkCpu T C σ c9) = 0 from (Eq.trans (if_neg h1) (if_pos h9))) he
    · skip
      exact tx_new (cls := xIAE) (text := "there is no such CPU") (ik := 55) (is := 150) (ic := 59) hQ hx hb hst hown hts hX hta hlocks (by decide) cl_X0_55 ini_IllegalArgumentException (by decide) at_IAE ng_IAE ot_IAE (hl.1.trans hml.symm) dX0_checkCpu_12 dX0_checkCpu_15 dX0_checkCpu_16 dX0_checkCpu_18 dX0_checkCpu_21 (Nat.le_of_ble_eq_true rfl) (Nat.le_of_ble_eq_true rfl) ⟨(Nat.le_of_ble_eq_true rfl), (Nat.le_of_ble_eq_true rfl)⟩ (xn1 (show (e_X0_checkCpu T C σ c9) = 1 from (Eq.trans (if_neg h1) (if_neg h9))))
def e_X0_checkCore (T C : Nat) (σ : St) (c9 : Int32) : Int32 := (if c9 < 0 then 1 else (if c9 < (σ.2.2 13) then 0 else 1))
theorem ck_X0_checkCore {T C : Nat} {σ : St} {c9 : Int32} (h : ¬ (e_X0_checkCore T C σ c9) = 0) : (e_X0_checkCore T C σ c9) = 1 := by
  unfold e_X0_checkCore at h ⊢
  repeat (first | (exact absurd rfl h) | rfl | split at h | split)
def rm_X0_checkCore : Room := { frames := 0, cells := 0, slots := 0, locals := 0 }
set_option maxHeartbeats 1600000 in
set_option maxRecDepth 100000 in
theorem k_X0_checkCore (l : Launch) (E : Ev) (q : Nat → Nat) (hq : Dq q) {T C : Nat} (hT : T ≤ 16) (hC : 1 ≤ C ∧ C ≤ 4) (σ : St) (hI : Inv T C σ) (c9 : Int32) (he : (e_X0_checkCore T C σ c9) = 0) : RV l 0 E q σ yX0_checkCore cX0_checkCore 2 none rm_X0_checkCore [.int c9]  True := by
  refine Met.ofB (by decide) (Nat.le_of_ble_eq_true rfl) (fun p e s m args below meth c ls Q B hQ hPK hl => ?_)
  obtain ⟨hx, hb, hml, hr, hlocks, hown, hts⟩ := B
  have S0 : Fx p m c cX0_checkCore 2 s args RX0 := ⟨hx, hb, hml, hown, hts⟩
  obtain ⟨hP, hK⟩ := hPK
  have hl : lv_has ls 2 [(0, .ref (q 0)), (1, .int c9)] := hl
  have hI0 := hI
  refine lv_iload_n hx hb dX0_checkCore_0 rfl (lv_at hl 1 rfl) ?_
  refine lv_if_lt (tgt := 12) hx hb dX0_checkCore_1 (by decide) (fun h1 => ?_) (fun h1 => ?_)
  · skip
    exact absurd (Eq.trans (Eq.symm (show (e_X0_checkCore T C σ c9) = 1 from (if_pos h1))) he) (by decide)
  · skip
    refine lv_iload_n hx hb dX0_checkCore_4 rfl (lv_at hl 1 rfl) ?_
    refine lv_aload_n hx hb dX0_checkCore_5 rfl (lv_at hl 0 rfl) ?_
    refine gf_X0_62 hx hb hts hown hK hP dX0_checkCore_6 ?_
    refine lv_icmp_lt (tgt := 22) hx hb dX0_checkCore_9 (by decide) (fun h9 => ?_) (fun h9 => ?_)
    · skip
      exact rt_RV hQ hx hb hr hlocks trivial dX0_checkCore_22
    · skip
      exact absurd (Eq.trans (Eq.symm (show (e_X0_checkCore T C σ c9) = 1 from (Eq.trans (if_neg h1) (if_neg h9)))) he) (by decide)
def rt_X0_checkCore : Room := { frames := 6, cells := 1, slots := 6, locals := 82 }
set_option maxHeartbeats 1600000 in
set_option maxRecDepth 100000 in
theorem t_X0_checkCore (l : Launch) (hst : l.stackTraces = false) (E : Ev) (q : Nat → Nat) (hq : Dq q) {T C : Nat} (hT : T ≤ 16) (hC : 1 ≤ C ∧ C ≤ 4) (σ : St) (hI : Inv T C σ) (c9 : Int32) (he : ¬ (e_X0_checkCore T C σ c9) = 0) : TX l E q σ yX0_checkCore cX0_checkCore 2 none rt_X0_checkCore [.int c9] xISE (e_X0_checkCore T C σ c9) := by
  refine vx_ofB (by decide) (Nat.le_of_ble_eq_true rfl) (fun p e s m args below meth c ls Q B hta hQ hPK hl => ?_)
  obtain ⟨hx, hb, hml, hr, hlocks, hown, hts⟩ := B
  have S0 : Fx p m c cX0_checkCore 2 s args RX0 := ⟨hx, hb, hml, hown, hts⟩
  obtain ⟨hP, hK, hX⟩ := hPK
  have hl : lv_has ls 2 [(0, .ref (q 0)), (1, .int c9)] := hl
  have hI0 := hI
  refine lv_iload_n hx hb dX0_checkCore_0 rfl (lv_at hl 1 rfl) ?_
  refine lv_if_lt (tgt := 12) hx hb dX0_checkCore_1 (by decide) (fun h1 => ?_) (fun h1 => ?_)
  · skip
    exact tx_new (cls := xIAE) (text := "there is no such core") (ik := 55) (is := 152) (ic := 59) hQ hx hb hst hown hts hX hta hlocks (by decide) cl_X0_55 ini_IllegalArgumentException (by decide) at_IAE ng_IAE ot_IAE (hl.1.trans hml.symm) dX0_checkCore_12 dX0_checkCore_15 dX0_checkCore_16 dX0_checkCore_18 dX0_checkCore_21 (Nat.le_of_ble_eq_true rfl) (Nat.le_of_ble_eq_true rfl) ⟨(Nat.le_of_ble_eq_true rfl), (Nat.le_of_ble_eq_true rfl)⟩ (xn1 (show (e_X0_checkCore T C σ c9) = 1 from (if_pos h1)))
  · skip
    refine lv_iload_n hx hb dX0_checkCore_4 rfl (lv_at hl 1 rfl) ?_
    refine lv_aload_n hx hb dX0_checkCore_5 rfl (lv_at hl 0 rfl) ?_
    refine gf_X0_62 hx hb hts hown hK hP dX0_checkCore_6 ?_
    refine lv_icmp_lt (tgt := 22) hx hb dX0_checkCore_9 (by decide) (fun h9 => ?_) (fun h9 => ?_)
    · skip
      exact absurd (show (e_X0_checkCore T C σ c9) = 0 from (Eq.trans (if_neg h1) (if_pos h9))) he
    · skip
      exact tx_new (cls := xIAE) (text := "there is no such core") (ik := 55) (is := 152) (ic := 59) hQ hx hb hst hown hts hX hta hlocks (by decide) cl_X0_55 ini_IllegalArgumentException (by decide) at_IAE ng_IAE ot_IAE (hl.1.trans hml.symm) dX0_checkCore_12 dX0_checkCore_15 dX0_checkCore_16 dX0_checkCore_18 dX0_checkCore_21 (Nat.le_of_ble_eq_true rfl) (Nat.le_of_ble_eq_true rfl) ⟨(Nat.le_of_ble_eq_true rfl), (Nat.le_of_ble_eq_true rfl)⟩ (xn1 (show (e_X0_checkCore T C σ c9) = 1 from (Eq.trans (if_neg h1) (if_neg h9))))
def e_X0_checkWeight (w9 : Int32) : Int32 := (if w9 < 1 then 1 else (if w9 ≤ 64 then 0 else 1))
theorem ck_X0_checkWeight {w9 : Int32} (h : ¬ (e_X0_checkWeight w9) = 0) : (e_X0_checkWeight w9) = 1 := by
  unfold e_X0_checkWeight at h ⊢
  repeat (first | (exact absurd rfl h) | rfl | split at h | split)
def rm_X0_checkWeight : Room := { frames := 0, cells := 0, slots := 0, locals := 0 }
set_option maxHeartbeats 1600000 in
set_option maxRecDepth 100000 in
theorem k_X0_checkWeight (l : Launch) (w9 : Int32) (he : (e_X0_checkWeight w9) = 0) : NV l yX0_checkWeight cX0_checkWeight 1 none rm_X0_checkWeight [.int w9] := by
  refine Met.ofB (by decide) (Nat.le_of_ble_eq_true rfl) (fun p e s m args below meth c ls Q B hQ hPK hl => ?_)
  obtain ⟨hx, hb, hml, hr, hlocks, hown, hts⟩ := B
  have S0 : Fx p m c cX0_checkWeight 1 s args RX0 := ⟨hx, hb, hml, hown, hts⟩
  have hl : lv_has ls 1 [(0, .int w9)] := hl
  refine lv_iload_n hx hb dX0_checkWeight_0 rfl (lv_at hl 0 rfl) ?_
  refine lv_iconst (v := 1) hx hb dX0_checkWeight_1 (by decide) ?_
  refine lv_icmp_lt (tgt := 11) hx hb dX0_checkWeight_2 (by decide) (fun h2 => ?_) (fun h2 => ?_)
  · skip
    exact absurd (Eq.trans (Eq.symm (show (e_X0_checkWeight w9) = 1 from (if_pos h2))) he) (by decide)
  · skip
    refine lv_iload_n hx hb dX0_checkWeight_5 rfl (lv_at hl 0 rfl) ?_
    refine lv_bipush (v := 64) hx hb dX0_checkWeight_6 (by decide) ?_
    refine lv_icmp_le (tgt := 21) hx hb dX0_checkWeight_8 (by decide) (fun h8 => ?_) (fun h8 => ?_)
    · skip
      exact rt_RV hQ hx hb hr hlocks trivial dX0_checkWeight_21
    · skip
      exact absurd (Eq.trans (Eq.symm (show (e_X0_checkWeight w9) = 1 from (Eq.trans (if_neg h2) (if_neg h8)))) he) (by decide)
def rt_X0_checkWeight : Room := { frames := 6, cells := 1, slots := 6, locals := 82 }
set_option maxHeartbeats 1600000 in
set_option maxRecDepth 100000 in
theorem t_X0_checkWeight (l : Launch) (hst : l.stackTraces = false) (q : Nat → Nat) (w9 : Int32) (he : ¬ (e_X0_checkWeight w9) = 0) : TN l q yX0_checkWeight cX0_checkWeight 1 none rt_X0_checkWeight [.int w9] xISE (e_X0_checkWeight w9) := by
  refine vx_ofB (by decide) (Nat.le_of_ble_eq_true rfl) (fun p e s m args below meth c ls Q B hta hQ hPK hl => ?_)
  obtain ⟨hx, hb, hml, hr, hlocks, hown, hts⟩ := B
  have S0 : Fx p m c cX0_checkWeight 1 s args RX0 := ⟨hx, hb, hml, hown, hts⟩
  have hX := hPK
  have hl : lv_has ls 1 [(0, .int w9)] := hl
  refine lv_iload_n hx hb dX0_checkWeight_0 rfl (lv_at hl 0 rfl) ?_
  refine lv_iconst (v := 1) hx hb dX0_checkWeight_1 (by decide) ?_
  refine lv_icmp_lt (tgt := 11) hx hb dX0_checkWeight_2 (by decide) (fun h2 => ?_) (fun h2 => ?_)
  · skip
    exact tx_new (cls := xIAE) (text := "weight is out of range") (ik := 55) (is := 154) (ic := 59) hQ hx hb hst hown hts hX hta hlocks (by decide) cl_X0_55 ini_IllegalArgumentException (by decide) at_IAE ng_IAE ot_IAE (hl.1.trans hml.symm) dX0_checkWeight_11 dX0_checkWeight_14 dX0_checkWeight_15 dX0_checkWeight_17 dX0_checkWeight_20 (Nat.le_of_ble_eq_true rfl) (Nat.le_of_ble_eq_true rfl) ⟨(Nat.le_of_ble_eq_true rfl), (Nat.le_of_ble_eq_true rfl)⟩ (xn1 (show (e_X0_checkWeight w9) = 1 from (if_pos h2)))
  · skip
    refine lv_iload_n hx hb dX0_checkWeight_5 rfl (lv_at hl 0 rfl) ?_
    refine lv_bipush (v := 64) hx hb dX0_checkWeight_6 (by decide) ?_
    refine lv_icmp_le (tgt := 21) hx hb dX0_checkWeight_8 (by decide) (fun h8 => ?_) (fun h8 => ?_)
    · skip
      exact absurd (show (e_X0_checkWeight w9) = 0 from (Eq.trans (if_neg h2) (if_pos h8))) he
    · skip
      exact tx_new (cls := xIAE) (text := "weight is out of range") (ik := 55) (is := 154) (ic := 59) hQ hx hb hst hown hts hX hta hlocks (by decide) cl_X0_55 ini_IllegalArgumentException (by decide) at_IAE ng_IAE ot_IAE (hl.1.trans hml.symm) dX0_checkWeight_11 dX0_checkWeight_14 dX0_checkWeight_15 dX0_checkWeight_17 dX0_checkWeight_20 (Nat.le_of_ble_eq_true rfl) (Nat.le_of_ble_eq_true rfl) ⟨(Nat.le_of_ble_eq_true rfl), (Nat.le_of_ble_eq_true rfl)⟩ (xn1 (show (e_X0_checkWeight w9) = 1 from (Eq.trans (if_neg h2) (if_neg h8))))
def e_X0_checkCookie (w9 : Int32) : Int32 := (if w9 < 0 then 1 else (if w9 ≤ 9 then 0 else 1))
theorem ck_X0_checkCookie {w9 : Int32} (h : ¬ (e_X0_checkCookie w9) = 0) : (e_X0_checkCookie w9) = 1 := by
  unfold e_X0_checkCookie at h ⊢
  repeat (first | (exact absurd rfl h) | rfl | split at h | split)
def rm_X0_checkCookie : Room := { frames := 0, cells := 0, slots := 0, locals := 0 }
set_option maxHeartbeats 1600000 in
set_option maxRecDepth 100000 in
theorem k_X0_checkCookie (l : Launch) (w9 : Int32) (he : (e_X0_checkCookie w9) = 0) : NV l yX0_checkCookie cX0_checkCookie 1 none rm_X0_checkCookie [.int w9] := by
  refine Met.ofB (by decide) (Nat.le_of_ble_eq_true rfl) (fun p e s m args below meth c ls Q B hQ hPK hl => ?_)
  obtain ⟨hx, hb, hml, hr, hlocks, hown, hts⟩ := B
  have S0 : Fx p m c cX0_checkCookie 1 s args RX0 := ⟨hx, hb, hml, hown, hts⟩
  have hl : lv_has ls 1 [(0, .int w9)] := hl
  refine lv_iload_n hx hb dX0_checkCookie_0 rfl (lv_at hl 0 rfl) ?_
  refine lv_if_lt (tgt := 10) hx hb dX0_checkCookie_1 (by decide) (fun h1 => ?_) (fun h1 => ?_)
  · skip
    exact absurd (Eq.trans (Eq.symm (show (e_X0_checkCookie w9) = 1 from (if_pos h1))) he) (by decide)
  · skip
    refine lv_iload_n hx hb dX0_checkCookie_4 rfl (lv_at hl 0 rfl) ?_
    refine lv_bipush (v := 9) hx hb dX0_checkCookie_5 (by decide) ?_
    refine lv_icmp_le (tgt := 20) hx hb dX0_checkCookie_7 (by decide) (fun h7 => ?_) (fun h7 => ?_)
    · skip
      exact rt_RV hQ hx hb hr hlocks trivial dX0_checkCookie_20
    · skip
      exact absurd (Eq.trans (Eq.symm (show (e_X0_checkCookie w9) = 1 from (Eq.trans (if_neg h1) (if_neg h7)))) he) (by decide)
def rt_X0_checkCookie : Room := { frames := 6, cells := 1, slots := 6, locals := 82 }
set_option maxHeartbeats 1600000 in
set_option maxRecDepth 100000 in
theorem t_X0_checkCookie (l : Launch) (hst : l.stackTraces = false) (q : Nat → Nat) (w9 : Int32) (he : ¬ (e_X0_checkCookie w9) = 0) : TN l q yX0_checkCookie cX0_checkCookie 1 none rt_X0_checkCookie [.int w9] xISE (e_X0_checkCookie w9) := by
  refine vx_ofB (by decide) (Nat.le_of_ble_eq_true rfl) (fun p e s m args below meth c ls Q B hta hQ hPK hl => ?_)
  obtain ⟨hx, hb, hml, hr, hlocks, hown, hts⟩ := B
  have S0 : Fx p m c cX0_checkCookie 1 s args RX0 := ⟨hx, hb, hml, hown, hts⟩
  have hX := hPK
  have hl : lv_has ls 1 [(0, .int w9)] := hl
  refine lv_iload_n hx hb dX0_checkCookie_0 rfl (lv_at hl 0 rfl) ?_
  refine lv_if_lt (tgt := 10) hx hb dX0_checkCookie_1 (by decide) (fun h1 => ?_) (fun h1 => ?_)
  · skip
    exact tx_new (cls := xIAE) (text := "cookie is out of range") (ik := 55) (is := 156) (ic := 59) hQ hx hb hst hown hts hX hta hlocks (by decide) cl_X0_55 ini_IllegalArgumentException (by decide) at_IAE ng_IAE ot_IAE (hl.1.trans hml.symm) dX0_checkCookie_10 dX0_checkCookie_13 dX0_checkCookie_14 dX0_checkCookie_16 dX0_checkCookie_19 (Nat.le_of_ble_eq_true rfl) (Nat.le_of_ble_eq_true rfl) ⟨(Nat.le_of_ble_eq_true rfl), (Nat.le_of_ble_eq_true rfl)⟩ (xn1 (show (e_X0_checkCookie w9) = 1 from (if_pos h1)))
  · skip
    refine lv_iload_n hx hb dX0_checkCookie_4 rfl (lv_at hl 0 rfl) ?_
    refine lv_bipush (v := 9) hx hb dX0_checkCookie_5 (by decide) ?_
    refine lv_icmp_le (tgt := 20) hx hb dX0_checkCookie_7 (by decide) (fun h7 => ?_) (fun h7 => ?_)
    · skip
      exact absurd (show (e_X0_checkCookie w9) = 0 from (Eq.trans (if_neg h1) (if_pos h7))) he
    · skip
      exact tx_new (cls := xIAE) (text := "cookie is out of range") (ik := 55) (is := 156) (ic := 59) hQ hx hb hst hown hts hX hta hlocks (by decide) cl_X0_55 ini_IllegalArgumentException (by decide) at_IAE ng_IAE ot_IAE (hl.1.trans hml.symm) dX0_checkCookie_10 dX0_checkCookie_13 dX0_checkCookie_14 dX0_checkCookie_16 dX0_checkCookie_19 (Nat.le_of_ble_eq_true rfl) (Nat.le_of_ble_eq_true rfl) ⟨(Nat.le_of_ble_eq_true rfl), (Nat.le_of_ble_eq_true rfl)⟩ (xn1 (show (e_X0_checkCookie w9) = 1 from (Eq.trans (if_neg h1) (if_neg h7))))
def e_X0_checkNotExited (T C : Nat) (σ : St) (t : Int32) : Int32 := (if (σ.1 3 (ix t)) = 3 then 2 else 0)
theorem ck_X0_checkNotExited {T C : Nat} {σ : St} {t : Int32} (h : ¬ (e_X0_checkNotExited T C σ t) = 0) : (e_X0_checkNotExited T C σ t) = 2 := by
  unfold e_X0_checkNotExited at h ⊢
  repeat (first | (exact absurd rfl h) | rfl | split at h | split)
def rm_X0_checkNotExited : Room := { frames := 0, cells := 0, slots := 0, locals := 0 }
set_option maxHeartbeats 1600000 in
set_option maxRecDepth 100000 in
theorem k_X0_checkNotExited (l : Launch) (E : Ev) (q : Nat → Nat) (hq : Dq q) {T C : Nat} (hT : T ≤ 16) (hC : 1 ≤ C ∧ C ≤ 4) (σ : St) (hI : Inv T C σ) (t : Int32) (hp0 : vp_in t 16) (he : (e_X0_checkNotExited T C σ t) = 0) : RV l 0 E q σ yX0_checkNotExited cX0_checkNotExited 2 none rm_X0_checkNotExited [.int t]  True := by
  refine Met.ofB (by decide) (Nat.le_of_ble_eq_true rfl) (fun p e s m args below meth c ls Q B hQ hPK hl => ?_)
  obtain ⟨hx, hb, hml, hr, hlocks, hown, hts⟩ := B
  have S0 : Fx p m c cX0_checkNotExited 2 s args RX0 := ⟨hx, hb, hml, hown, hts⟩
  obtain ⟨hP, hK⟩ := hPK
  have hl : lv_has ls 2 [(0, .ref (q 0)), (1, .int t)] := hl
  have hI0 := hI
  refine lv_aload_n hx hb dX0_checkNotExited_0 rfl (lv_at hl 0 rfl) ?_
  refine gf_X0_19 hx hb hts hown hK hP dX0_checkNotExited_1 ?_
  refine lv_iload_n hx hb dX0_checkNotExited_4 rfl (lv_at hl 1 rfl) ?_
  refine ld_3 hx hb hK hP hp0 dX0_checkNotExited_5 ?_
  refine lv_iconst (v := 3) hx hb dX0_checkNotExited_6 (by decide) ?_
  refine lv_icmp_ne (tgt := 20) hx hb dX0_checkNotExited_7 (by decide) (fun h7 => ?_) (fun h7 => ?_)
  · skip
    exact rt_RV hQ hx hb hr hlocks trivial dX0_checkNotExited_20
  · skip
    exact absurd (Eq.trans (Eq.symm (show (e_X0_checkNotExited T C σ t) = 2 from (if_pos h7))) he) (by decide)
def rt_X0_checkNotExited : Room := { frames := 6, cells := 1, slots := 6, locals := 82 }
set_option maxHeartbeats 1600000 in
set_option maxRecDepth 100000 in
theorem t_X0_checkNotExited (l : Launch) (hst : l.stackTraces = false) (E : Ev) (q : Nat → Nat) (hq : Dq q) {T C : Nat} (hT : T ≤ 16) (hC : 1 ≤ C ∧ C ≤ 4) (σ : St) (hI : Inv T C σ) (t : Int32) (hp0 : vp_in t 16) (he : ¬ (e_X0_checkNotExited T C σ t) = 0) : TX l E q σ yX0_checkNotExited cX0_checkNotExited 2 none rt_X0_checkNotExited [.int t] xISE (e_X0_checkNotExited T C σ t) := by
  refine vx_ofB (by decide) (Nat.le_of_ble_eq_true rfl) (fun p e s m args below meth c ls Q B hta hQ hPK hl => ?_)
  obtain ⟨hx, hb, hml, hr, hlocks, hown, hts⟩ := B
  have S0 : Fx p m c cX0_checkNotExited 2 s args RX0 := ⟨hx, hb, hml, hown, hts⟩
  obtain ⟨hP, hK, hX⟩ := hPK
  have hl : lv_has ls 2 [(0, .ref (q 0)), (1, .int t)] := hl
  have hI0 := hI
  refine lv_aload_n hx hb dX0_checkNotExited_0 rfl (lv_at hl 0 rfl) ?_
  refine gf_X0_19 hx hb hts hown hK hP dX0_checkNotExited_1 ?_
  refine lv_iload_n hx hb dX0_checkNotExited_4 rfl (lv_at hl 1 rfl) ?_
  refine ld_3 hx hb hK hP hp0 dX0_checkNotExited_5 ?_
  refine lv_iconst (v := 3) hx hb dX0_checkNotExited_6 (by decide) ?_
  refine lv_icmp_ne (tgt := 20) hx hb dX0_checkNotExited_7 (by decide) (fun h7 => ?_) (fun h7 => ?_)
  · skip
    exact absurd (show (e_X0_checkNotExited T C σ t) = 0 from (if_neg h7)) he
  · skip
    exact tx_new (cls := xISE) (text := "the task has exited") (ik := 88) (is := 158) (ic := 92) hQ hx hb hst hown hts hX hta hlocks (by decide) cl_X0_88 ini_IllegalStateException (by decide) at_ISE ng_ISE ot_ISE (hl.1.trans hml.symm) dX0_checkNotExited_10 dX0_checkNotExited_13 dX0_checkNotExited_14 dX0_checkNotExited_16 dX0_checkNotExited_19 (Nat.le_of_ble_eq_true rfl) (Nat.le_of_ble_eq_true rfl) ⟨(Nat.le_of_ble_eq_true rfl), (Nat.le_of_ble_eq_true rfl)⟩ (xn2 (show (e_X0_checkNotExited T C σ t) = 2 from (if_pos h7)))
