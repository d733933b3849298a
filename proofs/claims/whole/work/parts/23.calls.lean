theorem max_eq (a b : Int64) : (if lg_cmp a b ≤ 0 then b else a) = if b < a then a else b := by
  by_cases h : a ≤ b
  · rw [if_pos ((lg_cmp_le a b).mpr h)]
    have h2 : ¬ b < a := by
      intro q
      rw [Int64.lt_iff_toInt_lt] at q
      rw [Int64.le_iff_toInt_le] at h
      omega
    rw [if_neg h2]
  · rw [if_neg (fun q => h ((lg_cmp_le a b).mp q))]
    have h2 : b < a := by
      rw [Int64.lt_iff_toInt_lt]
      rw [Int64.le_iff_toInt_le] at h
      omega
    rw [if_pos h2]
theorem wake_fin (T C : Nat) (τ : St) (t : Int32) : sJ (sI τ 3 (ix t) 0) 4 (ix t) (if lg_cmp (τ.2.1 4 (ix t)) (τ.2.1 7 (ix (τ.1 0 (ix t)))) ≤ 0 then τ.2.1 7 (ix (τ.1 0 (ix t))) else τ.2.1 4 (ix t)) = g_X0_wake T C τ t ∧ (sJ (sI τ 3 (ix t) 0) 4 (ix t) (if lg_cmp (τ.2.1 4 (ix t)) (τ.2.1 7 (ix (τ.1 0 (ix t)))) ≤ 0 then τ.2.1 7 (ix (τ.1 0 (ix t))) else τ.2.1 4 (ix t))).2.1 4 (ix t) = f_X0_wake T C τ t ∧ (g_X0_wake T C τ t).2.2 17 = τ.2.2 17 := by
  have e : sJ (sI τ 3 (ix t) 0) 4 (ix t) (if lg_cmp (τ.2.1 4 (ix t)) (τ.2.1 7 (ix (τ.1 0 (ix t)))) ≤ 0 then τ.2.1 7 (ix (τ.1 0 (ix t))) else τ.2.1 4 (ix t)) = g_X0_wake T C τ t := by
    rw [max_eq]
    rfl
  exact ⟨e, by rw [e]; rfl, rfl⟩
def Same {α : Type} (c : Int32) (σ gs : St) (f1 : α) (G : St) (F : α) : Prop := (c = 0 → gs = G ∧ f1 = F ∧ G.2.2 17 = 0) ∧ (¬ c = 0 → gs = sS σ 17 c)
theorem sm {T C : Nat} {σ : St} {A B c : Int32} (h : rc A B = c) : (f_X1_isRefused T C σ A B = 0 ↔ c = 0) ∧ g_X1_isRefused T C σ A B = sS σ 17 c := by
  refine ⟨?_, by rw [isRef_g, h]⟩
  rw [isRef_f, h]
  constructor
  · intro q
    by_cases h0 : c = 0
    · exact h0
    · rw [if_neg h0] at q; exact absurd q ne10
  · intro q; rw [if_pos q]
theorem eWeight_eq (w : Int32) : e_X0_checkWeight w = f_X1_noWeight w := by
  rw [noWeight_eq]
  unfold e_X0_checkWeight
  by_cases h : w < 1
  · rw [if_pos h, if_pos h]
  · rw [if_neg h, if_neg h]
    by_cases h2 : w ≤ 64
    · rw [if_pos h2, if_neg (Int32.not_lt.mpr h2)]
    · rw [if_neg h2, if_pos (Int32.not_le.mp h2)]
theorem eCookie_eq (w : Int32) : e_X0_checkCookie w = f_X1_noCookie w := by
  rw [noCookie_eq]
  unfold e_X0_checkCookie
  by_cases h : w < 0
  · rw [if_pos h, if_pos h]
  · rw [if_neg h, if_neg h]
    by_cases h2 : w ≤ 9
    · rw [if_pos h2, if_neg (Int32.not_lt.mpr h2)]
    · rw [if_neg h2, if_pos (Int32.not_le.mp h2)]
theorem rc_0 (a : Int32) : rc a 0 = if a = 0 then 0 else 1 := by unfold rc; rw [if_pos rfl]
section Q
variable {T C : Nat} {σ : St}
theorem q_stateOf (hT : T ≤ 16) (hC : 1 ≤ C ∧ C ≤ 4) (hI : Inv T C σ) (t : Int32) : Same (e_X0_stateOf T C σ t) σ (g_X1_stateOf T C σ t) (f_X1_stateOf T C σ t) (sS σ 17 0) (f_X0_stateOf T C (sS σ 17 0) t) := by
  have hr : rc (f_X1_noTask T C σ t) 0 = e_X0_stateOf T C σ t := by
    rw [rc_0]
    unfold e_X0_stateOf
    rw [noTask_eq hI hT, eTask_eq hI]
  obtain ⟨h1, h2⟩ := sm (T := T) (C := C) (σ := σ) hr
  refine ⟨fun h0 => ?_, fun _ => h2⟩
  have h3 : g_X1_isRefused T C σ (f_X1_noTask T C σ t) 0 = sS σ 17 0 := by rw [h2, h0]
  refine ⟨h3, ?_, rfl⟩
  unfold f_X1_stateOf
  rw [if_pos (h1.mpr h0), h3]
  rfl
theorem q_cpuOf (hT : T ≤ 16) (hC : 1 ≤ C ∧ C ≤ 4) (hI : Inv T C σ) (t : Int32) : Same (e_X0_cpuOf T C σ t) σ (g_X1_cpuOf T C σ t) (f_X1_cpuOf T C σ t) (sS σ 17 0) (f_X0_cpuOf T C (sS σ 17 0) t) := by
  have hr : rc (f_X1_noTask T C σ t) 0 = e_X0_cpuOf T C σ t := by
    rw [rc_0]
    unfold e_X0_cpuOf
    rw [noTask_eq hI hT, eTask_eq hI]
  obtain ⟨h1, h2⟩ := sm (T := T) (C := C) (σ := σ) hr
  refine ⟨fun h0 => ?_, fun _ => h2⟩
  have h3 : g_X1_isRefused T C σ (f_X1_noTask T C σ t) 0 = sS σ 17 0 := by rw [h2, h0]
  refine ⟨h3, ?_, rfl⟩
  unfold f_X1_cpuOf
  rw [if_pos (h1.mpr h0), h3]
  rfl
theorem q_runTicks (hT : T ≤ 16) (hC : 1 ≤ C ∧ C ≤ 4) (hI : Inv T C σ) (t : Int32) : Same (e_X0_runTicks T C σ t) σ (g_X1_runTicks T C σ t) (f_X1_runTicks T C σ t) (sS σ 17 0) (f_X0_runTicks T C (sS σ 17 0) t) := by
  have hr : rc (f_X1_noTask T C σ t) 0 = e_X0_runTicks T C σ t := by
    rw [rc_0]
    unfold e_X0_runTicks
    rw [noTask_eq hI hT, eTask_eq hI]
  obtain ⟨h1, h2⟩ := sm (T := T) (C := C) (σ := σ) hr
  refine ⟨fun h0 => ?_, fun _ => h2⟩
  have h3 : g_X1_isRefused T C σ (f_X1_noTask T C σ t) 0 = sS σ 17 0 := by rw [h2, h0]
  refine ⟨h3, ?_, rfl⟩
  unfold f_X1_runTicks
  rw [if_pos (h1.mpr h0), h3]
  rfl
theorem q_waitTicks (hT : T ≤ 16) (hC : 1 ≤ C ∧ C ≤ 4) (hI : Inv T C σ) (t : Int32) : Same (e_X0_waitTicks T C σ t) σ (g_X1_waitTicks T C σ t) (f_X1_waitTicks T C σ t) (sS σ 17 0) (f_X0_waitTicks T C (sS σ 17 0) t) := by
  have hr : rc (f_X1_noTask T C σ t) 0 = e_X0_waitTicks T C σ t := by
    rw [rc_0]
    unfold e_X0_waitTicks
    rw [noTask_eq hI hT, eTask_eq hI]
  obtain ⟨h1, h2⟩ := sm (T := T) (C := C) (σ := σ) hr
  refine ⟨fun h0 => ?_, fun _ => h2⟩
  have h3 : g_X1_isRefused T C σ (f_X1_noTask T C σ t) 0 = sS σ 17 0 := by rw [h2, h0]
  refine ⟨h3, ?_, rfl⟩
  unfold f_X1_waitTicks
  rw [if_pos (h1.mpr h0), h3]
  rfl
theorem q_virtualTime (hT : T ≤ 16) (hC : 1 ≤ C ∧ C ≤ 4) (hI : Inv T C σ) (t : Int32) : Same (e_X0_virtualTime T C σ t) σ (g_X1_virtualTime T C σ t) (f_X1_virtualTime T C σ t) (sS σ 17 0) (f_X0_virtualTime T C (sS σ 17 0) t) := by
  have hr : rc (f_X1_noTask T C σ t) 0 = e_X0_virtualTime T C σ t := by
    rw [rc_0]
    unfold e_X0_virtualTime
    rw [noTask_eq hI hT, eTask_eq hI]
  obtain ⟨h1, h2⟩ := sm (T := T) (C := C) (σ := σ) hr
  refine ⟨fun h0 => ?_, fun _ => h2⟩
  have h3 : g_X1_isRefused T C σ (f_X1_noTask T C σ t) 0 = sS σ 17 0 := by rw [h2, h0]
  refine ⟨h3, ?_, rfl⟩
  unfold f_X1_virtualTime
  rw [if_pos (h1.mpr h0), h3]
  rfl
theorem q_runningTask (hT : T ≤ 16) (hC : 1 ≤ C ∧ C ≤ 4) (hI : Inv T C σ) (t : Int32) : Same (e_X0_runningTask T C σ t) σ (g_X1_runningTask T C σ t) (f_X1_runningTask T C σ t) (sS σ 17 0) (f_X0_runningTask T C (sS σ 17 0) t) := by
  have hr : rc (f_X1_noCpu T C σ t) 0 = e_X0_runningTask T C σ t := by
    rw [rc_0]
    unfold e_X0_runningTask
    rw [noCpu_eq hI hC, eCpu_eq hI]
  obtain ⟨h1, h2⟩ := sm (T := T) (C := C) (σ := σ) hr
  refine ⟨fun h0 => ?_, fun _ => h2⟩
  have h3 : g_X1_isRefused T C σ (f_X1_noCpu T C σ t) 0 = sS σ 17 0 := by rw [h2, h0]
  refine ⟨h3, ?_, rfl⟩
  unfold f_X1_runningTask
  rw [if_pos (h1.mpr h0), h3]
  rfl
theorem q_baseOf (hT : T ≤ 16) (hC : 1 ≤ C ∧ C ≤ 4) (hI : Inv T C σ) (t : Int32) : Same (e_X0_baseOf T C σ t) σ (g_X1_baseOf T C σ t) (f_X1_baseOf T C σ t) (sS σ 17 0) (f_X0_baseOf T C (sS σ 17 0) t) := by
  have hr : rc (f_X1_noCpu T C σ t) 0 = e_X0_baseOf T C σ t := by
    rw [rc_0]
    unfold e_X0_baseOf
    rw [noCpu_eq hI hC, eCpu_eq hI]
  obtain ⟨h1, h2⟩ := sm (T := T) (C := C) (σ := σ) hr
  refine ⟨fun h0 => ?_, fun _ => h2⟩
  have h3 : g_X1_isRefused T C σ (f_X1_noCpu T C σ t) 0 = sS σ 17 0 := by rw [h2, h0]
  refine ⟨h3, ?_, rfl⟩
  unfold f_X1_baseOf
  rw [if_pos (h1.mpr h0), h3]
  rfl
theorem q_idleTicks (hT : T ≤ 16) (hC : 1 ≤ C ∧ C ≤ 4) (hI : Inv T C σ) (t : Int32) : Same (e_X0_idleTicks T C σ t) σ (g_X1_idleTicks T C σ t) (f_X1_idleTicks T C σ t) (sS σ 17 0) (f_X0_idleTicks T C (sS σ 17 0) t) := by
  have hr : rc (f_X1_noCpu T C σ t) 0 = e_X0_idleTicks T C σ t := by
    rw [rc_0]
    unfold e_X0_idleTicks
    rw [noCpu_eq hI hC, eCpu_eq hI]
  obtain ⟨h1, h2⟩ := sm (T := T) (C := C) (σ := σ) hr
  refine ⟨fun h0 => ?_, fun _ => h2⟩
  have h3 : g_X1_isRefused T C σ (f_X1_noCpu T C σ t) 0 = sS σ 17 0 := by rw [h2, h0]
  refine ⟨h3, ?_, rfl⟩
  unfold f_X1_idleTicks
  rw [if_pos (h1.mpr h0), h3]
  rfl
theorem q_forcedIdleTicks (hT : T ≤ 16) (hC : 1 ≤ C ∧ C ≤ 4) (hI : Inv T C σ) (t : Int32) : Same (e_X0_forcedIdleTicks T C σ t) σ (g_X1_forcedIdleTicks T C σ t) (f_X1_forcedIdleTicks T C σ t) (sS σ 17 0) (f_X0_forcedIdleTicks T C (sS σ 17 0) t) := by
  have hr : rc (f_X1_noCpu T C σ t) 0 = e_X0_forcedIdleTicks T C σ t := by
    rw [rc_0]
    unfold e_X0_forcedIdleTicks
    rw [noCpu_eq hI hC, eCpu_eq hI]
  obtain ⟨h1, h2⟩ := sm (T := T) (C := C) (σ := σ) hr
  refine ⟨fun h0 => ?_, fun _ => h2⟩
  have h3 : g_X1_isRefused T C σ (f_X1_noCpu T C σ t) 0 = sS σ 17 0 := by rw [h2, h0]
  refine ⟨h3, ?_, rfl⟩
  unfold f_X1_forcedIdleTicks
  rw [if_pos (h1.mpr h0), h3]
  rfl
theorem q_coreCookie (hT : T ≤ 16) (hC : 1 ≤ C ∧ C ≤ 4) (hI : Inv T C σ) (t : Int32) : Same (e_X0_coreCookie T C σ t) σ (g_X1_coreCookie T C σ t) (f_X1_coreCookie T C σ t) (sS σ 17 0) (f_X0_coreCookie T C (sS σ 17 0) t) := by
  have hr : rc (f_X1_noCore T C σ t) 0 = e_X0_coreCookie T C σ t := by
    rw [rc_0]
    unfold e_X0_coreCookie
    rw [noCore_eq hI hC, eCore_eq hI]
  obtain ⟨h1, h2⟩ := sm (T := T) (C := C) (σ := σ) hr
  refine ⟨fun h0 => ?_, fun _ => h2⟩
  have h3 : g_X1_isRefused T C σ (f_X1_noCore T C σ t) 0 = sS σ 17 0 := by rw [h2, h0]
  refine ⟨h3, ?_, rfl⟩
  unfold f_X1_coreCookie
  rw [if_pos (h1.mpr h0), h3]
  rfl
theorem q_leaderOf (hT : T ≤ 16) (hC : 1 ≤ C ∧ C ≤ 4) (hI : Inv T C σ) (t : Int32) : Same (e_X0_leaderOf T C σ t) σ (g_X1_leaderOf T C σ t) (f_X1_leaderOf T C σ t) (sS σ 17 0) (f_X0_leaderOf T C (sS σ 17 0) t) := by
  have hr : rc (f_X1_noCore T C σ t) 0 = e_X0_leaderOf T C σ t := by
    rw [rc_0]
    unfold e_X0_leaderOf
    rw [noCore_eq hI hC, eCore_eq hI]
  obtain ⟨h1, h2⟩ := sm (T := T) (C := C) (σ := σ) hr
  refine ⟨fun h0 => ?_, fun _ => h2⟩
  have h3 : g_X1_isRefused T C σ (f_X1_noCore T C σ t) 0 = sS σ 17 0 := by rw [h2, h0]
  refine ⟨h3, ?_, rfl⟩
  unfold f_X1_leaderOf
  rw [if_pos (h1.mpr h0), h3]
  exact leader_eq T C _ t
theorem q_queueLength (hT : T ≤ 16) (hC : 1 ≤ C ∧ C ≤ 4) (hI : Inv T C σ) (t : Int32) : Same (e_X0_queueLength T C σ t) σ (g_X1_queueLength T C σ t) (f_X1_queueLength T C σ t) (sS σ 17 0) (f_X0_queueLength T C (sS σ 17 0) t) := by
  have hr : rc (f_X1_noCpu T C σ t) 0 = e_X0_queueLength T C σ t := by
    rw [rc_0]
    unfold e_X0_queueLength
    rw [noCpu_eq hI hC, eCpu_eq hI]
  obtain ⟨h1, h2⟩ := sm (T := T) (C := C) (σ := σ) hr
  refine ⟨fun h0 => ?_, fun _ => h2⟩
  have h3 : g_X1_isRefused T C σ (f_X1_noCpu T C σ t) 0 = sS σ 17 0 := by rw [h2, h0]
  refine ⟨h3, ?_, rfl⟩
  unfold f_X1_queueLength
  rw [if_pos (h1.mpr h0), h3]
  exact cntQ_eq T C _ t
theorem q_sleep (hT : T ≤ 16) (hC : 1 ≤ C ∧ C ≤ 4) (hI : Inv T C σ) (t : Int32) : Same (e_X0_sleep T C σ t) σ (g_X1_sleep T C σ t) (f_X1_sleep T C σ t) (g_X0_sleep T C (sS σ 17 0) t) (f_X0_sleep T C (sS σ 17 0) t) := by
  have hr : rc (f_X1_noTask T C σ t) (if (f_X1_noTask T C σ t) = 0 then (if (f_X1_isRunnable T C σ t) = 0 then 1 else 0) else 0) = e_X0_sleep T C σ t := by
    unfold rc e_X0_sleep
    rw [noTask_eq hI hT, eTask_eq hI, run_eq]
    by_cases c0 : out t T = 0
    · by_cases c1 : f_X0_isRunnable T C σ t = 0
      · simp [c0, c1]
      · simp [c0, c1]
    · by_cases c1 : f_X0_isRunnable T C σ t = 0
      · simp [c0, c1]
      · simp [c0, c1]
  obtain ⟨h1, h2⟩ := sm (T := T) (C := C) (σ := σ) hr
  refine ⟨fun h0 => ?_, fun h0 => ?_⟩
  · have h3 : g_X1_isRefused T C σ (f_X1_noTask T C σ t) (if (f_X1_noTask T C σ t) = 0 then (if (f_X1_isRunnable T C σ t) = 0 then 1 else 0) else 0) = sS σ 17 0 := by rw [h2, h0]
    unfold g_X1_sleep f_X1_sleep
    rw [if_pos (h1.mpr h0), if_pos (h1.mpr h0), h3]
    exact ⟨rfl, rfl, by unfold g_X0_sleep g_X0_stopTask; split <;> rfl⟩
  · unfold g_X1_sleep
    rw [if_neg (fun q => h0 (h1.mp q)), h2]
theorem q_exit (hT : T ≤ 16) (hC : 1 ≤ C ∧ C ≤ 4) (hI : Inv T C σ) (t : Int32) : Same (e_X0_exit T C σ t) σ (g_X1_exit T C σ t) (f_X1_exit T C σ t) (g_X0_exit T C (sS σ 17 0) t) (f_X0_exit T C (sS σ 17 0) t) := by
  have hr : rc (f_X1_noTask T C σ t) (f_X1_hasExited T C σ t) = e_X0_exit T C σ t := by
    unfold rc e_X0_exit f_X1_hasExited e_X0_checkNotExited
    rw [noTask_eq hI hT, eTask_eq hI]
    by_cases c0 : out t T = 0
    · by_cases c1 : σ.1 3 (ix t) = 3
      · simp [c0, c1]
      · simp [c0, c1]
    · by_cases c1 : σ.1 3 (ix t) = 3
      · simp [c0, c1]
      · simp [c0, c1]
  obtain ⟨h1, h2⟩ := sm (T := T) (C := C) (σ := σ) hr
  refine ⟨fun h0 => ?_, fun h0 => ?_⟩
  · have h3 : g_X1_isRefused T C σ (f_X1_noTask T C σ t) (f_X1_hasExited T C σ t) = sS σ 17 0 := by rw [h2, h0]
    unfold g_X1_exit f_X1_exit
    rw [if_pos (h1.mpr h0), if_pos (h1.mpr h0), h3]
    exact ⟨rfl, rfl, by unfold g_X0_exit g_X0_stopTask; split <;> rfl⟩
  · unfold g_X1_exit
    rw [if_neg (fun q => h0 (h1.mp q)), h2]
theorem q_setWeight (hT : T ≤ 16) (hC : 1 ≤ C ∧ C ≤ 4) (hI : Inv T C σ) (t w : Int32) : Same (e_X0_setWeight T C σ t w) σ (g_X1_setWeight T C σ t w) (f_X1_setWeight T C σ t w) (g_X0_setWeight T C (sS σ 17 0) t w) (f_X0_setWeight T C (sS σ 17 0) t w) := by
  have hr : rc (if (f_X1_noTask T C σ t) = 0 then (if (f_X1_noWeight w) = 0 then 0 else 1) else 1) (f_X1_hasExited T C σ t) = e_X0_setWeight T C σ t w := by
    unfold rc e_X0_setWeight f_X1_hasExited e_X0_checkNotExited
    rw [noTask_eq hI hT, eTask_eq hI, eWeight_eq]
    by_cases c0 : out t T = 0
    · by_cases c1 : f_X1_noWeight w = 0
      · by_cases c2 : σ.1 3 (ix t) = 3
        · simp [c0, c1, c2]
        · simp [c0, c1, c2]
      · by_cases c2 : σ.1 3 (ix t) = 3
        · simp [c0, c1, c2]
        · simp [c0, c1, c2]
    · by_cases c1 : f_X1_noWeight w = 0
      · by_cases c2 : σ.1 3 (ix t) = 3
        · simp [c0, c1, c2]
        · simp [c0, c1, c2]
      · by_cases c2 : σ.1 3 (ix t) = 3
        · simp [c0, c1, c2]
        · simp [c0, c1, c2]
  obtain ⟨h1, h2⟩ := sm (T := T) (C := C) (σ := σ) hr
  refine ⟨fun h0 => ?_, fun h0 => ?_⟩
  · have h3 : g_X1_isRefused T C σ (if (f_X1_noTask T C σ t) = 0 then (if (f_X1_noWeight w) = 0 then 0 else 1) else 1) (f_X1_hasExited T C σ t) = sS σ 17 0 := by rw [h2, h0]
    unfold g_X1_setWeight f_X1_setWeight
    rw [if_pos (h1.mpr h0), if_pos (h1.mpr h0), h3]
    exact ⟨rfl, rfl, rfl⟩
  · unfold g_X1_setWeight
    rw [if_neg (fun q => h0 (h1.mp q)), h2]
theorem q_setCookie (hT : T ≤ 16) (hC : 1 ≤ C ∧ C ≤ 4) (hI : Inv T C σ) (t w : Int32) : Same (e_X0_setCookie T C σ t w) σ (g_X1_setCookie T C σ t w) (f_X1_setCookie T C σ t w) (g_X0_setCookie T C (sS σ 17 0) t w) (f_X0_setCookie T C (sS σ 17 0) t w) := by
  have hr : rc (if (f_X1_noTask T C σ t) = 0 then (if (f_X1_noCookie w) = 0 then 0 else 1) else 1) (f_X1_hasExited T C σ t) = e_X0_setCookie T C σ t w := by
    unfold rc e_X0_setCookie f_X1_hasExited e_X0_checkNotExited
    rw [noTask_eq hI hT, eTask_eq hI, eCookie_eq]
    by_cases c0 : out t T = 0
    · by_cases c1 : f_X1_noCookie w = 0
      · by_cases c2 : σ.1 3 (ix t) = 3
        · simp [c0, c1, c2]
        · simp [c0, c1, c2]
      · by_cases c2 : σ.1 3 (ix t) = 3
        · simp [c0, c1, c2]
        · simp [c0, c1, c2]
    · by_cases c1 : f_X1_noCookie w = 0
      · by_cases c2 : σ.1 3 (ix t) = 3
        · simp [c0, c1, c2]
        · simp [c0, c1, c2]
      · by_cases c2 : σ.1 3 (ix t) = 3
        · simp [c0, c1, c2]
        · simp [c0, c1, c2]
  obtain ⟨h1, h2⟩ := sm (T := T) (C := C) (σ := σ) hr
  refine ⟨fun h0 => ?_, fun h0 => ?_⟩
  · have h3 : g_X1_isRefused T C σ (if (f_X1_noTask T C σ t) = 0 then (if (f_X1_noCookie w) = 0 then 0 else 1) else 1) (f_X1_hasExited T C σ t) = sS σ 17 0 := by rw [h2, h0]
    unfold g_X1_setCookie f_X1_setCookie
    rw [if_pos (h1.mpr h0), if_pos (h1.mpr h0), h3]
    exact ⟨rfl, rfl, rfl⟩
  · unfold g_X1_setCookie
    rw [if_neg (fun q => h0 (h1.mp q)), h2]
theorem q_moveTask (hT : T ≤ 16) (hC : 1 ≤ C ∧ C ≤ 4) (hI : Inv T C σ) (t c : Int32) : Same (e_X0_moveTask T C σ t c) σ (g_X1_moveTask T C σ t c) (f_X1_moveTask T C σ t c) (g_X0_moveTask T C (sS σ 17 0) t c) (f_X0_moveTask T C (sS σ 17 0) t c) := by
  have hr : rc (if (f_X1_noTask T C σ t) = 0 then (if (f_X1_noCpu T C σ c) = 0 then 0 else 1) else 1) (if ((if (f_X1_noTask T C σ t) = 0 then (if (f_X1_noCpu T C σ c) = 0 then 0 else 1) else 1) : Int32) = 0 then (if (σ.1 3 (ix t)) = 1 then 1 else (if (σ.1 3 (ix t)) = 3 then 1 else 0)) else 0) = e_X0_moveTask T C σ t c := by
    unfold rc e_X0_moveTask e_X0_checkNotExited
    rw [noTask_eq hI hT, noCpu_eq hI hC, eTask_eq hI, eCpu_eq hI]
    by_cases c0 : out t T = 0
    · by_cases c1 : out c (2 * C) = 0
      · by_cases c2 : σ.1 3 (ix t) = 1
        · by_cases c3 : σ.1 3 (ix t) = 3
          · simp [c0, c1, c2, c3]
          · simp [c0, c1, c2, c3]
        · by_cases c3 : σ.1 3 (ix t) = 3
          · simp [c0, c1, c2, c3]
          · simp [c0, c1, c2, c3]
      · by_cases c2 : σ.1 3 (ix t) = 1
        · by_cases c3 : σ.1 3 (ix t) = 3
          · simp [c0, c1, c2, c3]
          · simp [c0, c1, c2, c3]
        · by_cases c3 : σ.1 3 (ix t) = 3
          · simp [c0, c1, c2, c3]
          · simp [c0, c1, c2, c3]
    · by_cases c1 : out c (2 * C) = 0
      · by_cases c2 : σ.1 3 (ix t) = 1
        · by_cases c3 : σ.1 3 (ix t) = 3
          · simp [c0, c1, c2, c3]
          · simp [c0, c1, c2, c3]
        · by_cases c3 : σ.1 3 (ix t) = 3
          · simp [c0, c1, c2, c3]
          · simp [c0, c1, c2, c3]
      · by_cases c2 : σ.1 3 (ix t) = 1
        · by_cases c3 : σ.1 3 (ix t) = 3
          · simp [c0, c1, c2, c3]
          · simp [c0, c1, c2, c3]
        · by_cases c3 : σ.1 3 (ix t) = 3
          · simp [c0, c1, c2, c3]
          · simp [c0, c1, c2, c3]
  obtain ⟨h1, h2⟩ := sm (T := T) (C := C) (σ := σ) hr
  refine ⟨fun h0 => ?_, fun h0 => ?_⟩
  · have h3 : g_X1_isRefused T C σ (if (f_X1_noTask T C σ t) = 0 then (if (f_X1_noCpu T C σ c) = 0 then 0 else 1) else 1) (if ((if (f_X1_noTask T C σ t) = 0 then (if (f_X1_noCpu T C σ c) = 0 then 0 else 1) else 1) : Int32) = 0 then (if (σ.1 3 (ix t)) = 1 then 1 else (if (σ.1 3 (ix t)) = 3 then 1 else 0)) else 0) = sS σ 17 0 := by rw [h2, h0]
    unfold g_X1_moveTask f_X1_moveTask
    rw [if_pos (h1.mpr h0), if_pos (h1.mpr h0), h3]
    exact ⟨rfl, rfl, by unfold g_X0_moveTask; split <;> rfl⟩
  · unfold g_X1_moveTask
    rw [if_neg (fun q => h0 (h1.mp q)), h2]
theorem q_wake (hT : T ≤ 16) (hC : 1 ≤ C ∧ C ≤ 4) (hI : Inv T C σ) (t : Int32) : Same (e_X0_wake T C σ t) σ (g_X1_wake T C σ t) (f_X1_wake T C σ t) (g_X0_wake T C (sS σ 17 0) t) (f_X0_wake T C (sS σ 17 0) t) := by
  have hr : rc (f_X1_noTask T C σ t) (if (f_X1_noTask T C σ t) = 0 then (if (σ.1 3 (ix t)) = 2 then 0 else 1) else 0) = e_X0_wake T C σ t := by
    unfold rc e_X0_wake
    rw [noTask_eq hI hT, eTask_eq hI]
    by_cases c0 : out t T = 0
    · by_cases c1 : σ.1 3 (ix t) = 2
      · simp [c0, c1]
      · simp [c0, c1]
    · by_cases c1 : σ.1 3 (ix t) = 2
      · simp [c0, c1]
      · simp [c0, c1]
  obtain ⟨h1, h2⟩ := sm (T := T) (C := C) (σ := σ) hr
  refine ⟨fun h0 => ?_, fun h0 => ?_⟩
  · have h3 : g_X1_isRefused T C σ (f_X1_noTask T C σ t) (if (f_X1_noTask T C σ t) = 0 then (if (σ.1 3 (ix t)) = 2 then 0 else 1) else 0) = sS σ 17 0 := by rw [h2, h0]
    unfold g_X1_wake f_X1_wake
    rw [if_pos (h1.mpr h0), if_pos (h1.mpr h0), h3]
    exact wake_fin T C (sS σ 17 0) t
  · unfold g_X1_wake
    rw [if_neg (fun q => h0 (h1.mp q)), h2]
end Q
