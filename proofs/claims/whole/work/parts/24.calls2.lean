theorem s17_lp {f : Nat → St → St} (h : ∀ i z, (f i z).2.2 17 = z.2.2 17) : ∀ n i z, (lp f n i z).2.2 17 = z.2.2 17 := by
  intro n
  induction n with
  | zero => intro i z; rfl
  | succ n ih => intro i z; show (lp f n (i + 1) (f i z)).2.2 17 = _; rw [ih, h]
theorem s17_release (T C : Nat) (z : St) (r : Int32) : (g_X0_releaseTasks T C z r).2.2 17 = z.2.2 17 := by
  refine s17_lp (fun i z => ?_) T 0 z
  unfold F_X0_releaseTasks_2
  split
  · split
    · rfl
    · rfl
  · rfl
theorem s17_take (T C : Nat) (z : St) (c k : Int32) : (g_X0_takeTask T C z c k).2.2 17 = z.2.2 17 := by
  unfold g_X0_takeTask
  split
  · split
    · rfl
    · split
      · rfl
      · rfl
  · rfl
theorem s17_give (T C : Nat) (z : St) (c t : Int32) : (g_X0_giveToCpu T C z c t).2.2 17 = z.2.2 17 := by
  unfold g_X0_giveToCpu
  split
  · rfl
  · rfl
theorem s17_pick (T C j : Nat) (z : St) : (g_X0_pickForCore T C z j).2.2 17 = z.2.2 17 := by
  unfold g_X0_pickForCore
  rw [s17_lp (fun i y => ?_), s17_release]
  · rfl
  · unfold F_X0_pickForCore_43
    rw [s17_give]
    split
    · rfl
    · rw [s17_take]
theorem s17_charge (T C : Nat) (z : St) : (g_X0_chargeTasks T C z).2.2 17 = z.2.2 17 := by
  have h1 : ∀ (i : Nat) (a : Int32 × St), (F_X0_chargeTasks_4 i a).2.2.2 17 = a.2.2.2 17 := by
    intro i a
    unfold F_X0_chargeTasks_4
    show (if _ then _ else _ : St).2.2 17 = _
    split
    · rfl
    · split
      · rfl
      · rfl
  have key : ∀ n i (a : Int32 × St), (lp F_X0_chargeTasks_4 n i a).2.2.2 17 = a.2.2.2 17 := by
    intro n
    induction n with
    | zero => intro i a; rfl
    | succ n ih => intro i a; show (lp F_X0_chargeTasks_4 n (i + 1) (F_X0_chargeTasks_4 i a)).2.2.2 17 = _; rw [ih, h1]
  exact key T 0 (0, z)
theorem s17_tick (T C : Nat) (z : St) : (g_X0_simulateTick T C z).2.2 17 = z.2.2 17 := by
  unfold g_X0_simulateTick g_X0_raiseBases g_X0_countIdleCpus
  rw [s17_lp (fun i y => ?_), s17_lp (fun i y => ?_), s17_charge, s17_lp (f := F_X0_simulateTick_2 T C) (fun i y => s17_pick T C i y)]
  · unfold F_X0_countIdleCpus_2
    split
    · split
      · rfl
      · rfl
    · rfl
  · unfold F_X0_raiseBases_2
    split
    · rfl
    · rfl
section Q
variable {T C : Nat} {σ : St}
theorem q_tick (hT : T ≤ 16) (hC : 1 ≤ C ∧ C ≤ 4) (hI : Inv T C σ) (t : Int32) : Same (e_X0_tick T C σ t) σ (g_X1_tick T C σ t) (f_X1_tick T C σ t) (g_X0_tick T C (sS σ 17 0) t) (f_X0_tick T C (sS σ 17 0) t) := by
  have hr : rc (if (f_X1_in (Int32.toInt64 t) 1 100) = 0 then 1 else 0) 0 = e_X0_tick T C σ t := by
    rw [rc_0, in_eq]
    have a1 : (Int32.toInt64 t < 1) ↔ t < 1 := i64_ltd t 1 (by decide)
    have a2 : (100 < Int32.toInt64 t) ↔ 100 < t := i64_ltc t 100 (by decide)
    simp only [a1, a2]
    unfold e_X0_tick
    by_cases c1 : t < 1
    · simp [c1]
    · by_cases c2 : t ≤ 100
      · simp [c1, c2, Int32.not_lt.mpr c2]
      · simp [c1, c2, Int32.not_le.mp c2]
  obtain ⟨h1, h2⟩ := sm (T := T) (C := C) (σ := σ) hr
  refine ⟨fun h0 => ?_, fun h0 => ?_⟩
  · have h3 : g_X1_isRefused T C σ (if (f_X1_in (Int32.toInt64 t) 1 100) = 0 then 1 else 0) 0 = sS σ 17 0 := by rw [h2, h0]
    have hJ : Inv T C (sS σ 17 0) := inv_sS (by decide) hI
    have e : lp (F_X1_tick_31 T C) (ix t) 0 (0, sS σ 17 0) = lp (F_X0_tick_25 T C) (ix t) 0 (0, sS σ 17 0) := by
      refine lp_extI (N := ix t) (fun _ (z : Int32 × St) => Inv T C z.2) (fun i z _ hz => ?_) (ix t) 0 (0, sS σ 17 0) (by omega) hJ
      obtain ⟨k1, k2, k3⟩ := tick_eq hT hC z.2 hz
      refine ⟨?_, k3⟩
      unfold F_X1_tick_31 F_X0_tick_25
      rw [k1, k2]
    unfold g_X1_tick f_X1_tick
    rw [if_pos (h1.mpr h0), if_pos (h1.mpr h0), h3, e]
    refine ⟨rfl, rfl, ?_⟩
    have key : ∀ n i (a : Int32 × St), (lp (F_X0_tick_25 T C) n i a).2.2.2 17 = a.2.2.2 17 := by
      intro n
      induction n with
      | zero => intro i a; rfl
      | succ n ih =>
        intro i a
        show (lp (F_X0_tick_25 T C) n (i + 1) (F_X0_tick_25 T C i a)).2.2.2 17 = _
        rw [ih]
        exact s17_tick T C a.2
    exact key (ix t) 0 (0, sS σ 17 0)
  · unfold g_X1_tick
    rw [if_neg (fun q => h0 (h1.mp q)), h2]
theorem sS_order (τ : St) (n : Int32) : sS (sS (sS (sS τ 13 n) 16 0) 15 0) 14 0 = sS (sS (sS (sS τ 13 n) 14 0) 15 0) 16 0 := by
  refine St_ext (fun _ _ => rfl) (fun _ _ => rfl) (fun b => ?_)
  show (if b = 14 then (0 : Int32) else if b = 15 then 0 else if b = 16 then 0 else if b = 13 then n else τ.2.2 b) = (if b = 16 then (0 : Int32) else if b = 15 then 0 else if b = 14 then 0 else if b = 13 then n else τ.2.2 b)
  by_cases h1 : b = 14
  · simp [h1]
  · by_cases h2 : b = 15
    · simp [h2]
    · by_cases h3 : b = 16
      · simp [h3]
      · simp [h1, h2, h3]
theorem anew_eq (τ : St) (n : Int32) : g_X1_begins T C τ n = g_X0_startAnew T C τ n := by
  unfold g_X1_begins g_X0_startAnew
  rw [sS_order]
  rfl
/-- what a start anew leaves -/
theorem anew_get (τ : St) (n : Int32) : (g_X0_startAnew T C τ n).1 0 = τ.1 0 ∧ (g_X0_startAnew T C τ n).2.2 = (sS (sS (sS (sS τ 13 n) 14 0) 15 0) 16 0).2.2 ∧ (g_X0_startAnew T C τ n).1 5 = τ.1 5 ∧ (g_X0_startAnew T C τ n).1 6 = τ.1 6 := ⟨rfl, rfl, rfl, rfl⟩
theorem q_reset (hI : Inv T C σ) (n : Int32) : Same (e_X0_reset T C σ n) σ (g_X1_reset T C σ n) (f_X1_reset T C σ n) (g_X0_reset T C (sS σ 17 0) n) (f_X0_reset T C (sS σ 17 0) n) := by
  have hr : rc (if (f_X1_in (Int32.toInt64 n) 1 4) = 0 then 1 else 0) 0 = e_X0_reset T C σ n := by
    rw [rc_0, in_eq]
    have a1 : (Int32.toInt64 n < 1) ↔ n < 1 := i64_ltd n 1 (by decide)
    have a2 : (4 < Int32.toInt64 n) ↔ 4 < n := i64_ltc n 4 (by decide)
    simp only [a1, a2]
    unfold e_X0_reset
    by_cases c1 : n < 1
    · simp [c1]
    · by_cases c2 : n ≤ 4
      · simp [c1, c2, Int32.not_lt.mpr c2]
      · simp [c1, c2, Int32.not_le.mp c2]
  obtain ⟨h1, h2⟩ := sm (T := T) (C := C) (σ := σ) hr
  refine ⟨fun h0 => ?_, fun h0 => ?_⟩
  · have h3 : g_X1_isRefused T C σ (if (f_X1_in (Int32.toInt64 n) 1 4) = 0 then 1 else 0) 0 = sS σ 17 0 := by rw [h2, h0]
    unfold g_X1_reset f_X1_reset
    rw [if_pos (h1.mpr h0), if_pos (h1.mpr h0), h3, anew_eq]
    exact ⟨rfl, rfl, rfl⟩
  · unfold g_X1_reset
    rw [if_neg (fun q => h0 (h1.mp q)), h2]
theorem cores_of {n : Int32} (h : e_X0_reset T C σ n = 0) : ∃ D : Nat, 1 ≤ D ∧ D ≤ 4 ∧ n = nI D := by
  unfold e_X0_reset at h
  by_cases c1 : n < 1
  · rw [if_pos c1] at h; exact absurd h ne10
  · rw [if_neg c1] at h
    by_cases c2 : n ≤ 4
    · have c4 : ¬ n < 0 := by
        intro q
        apply c1
        rw [Int32.lt_iff_toInt_lt] at q ⊢
        have z0 : (0 : Int32).toInt = 0 := rfl
        have z1 : (1 : Int32).toInt = 1 := rfl
        omega
      obtain ⟨j, hj, rfl⟩ := nI_of2 (M := 4) (n := 4) rfl c4 c2
      refine ⟨j, ?_, hj, rfl⟩
      rcases Nat.eq_zero_or_pos j with q | q
      · subst q; exact absurd (by decide) c1
      · exact q
    · rw [if_neg c2] at h; exact absurd h ne10
theorem inv_anew {D : Nat} (τ : St) (hI : ∀ k, vp_in (τ.1 0 k) 8) : Inv 0 D (g_X0_startAnew T C τ (nI D)) := ⟨hI, rfl, rfl, fun k hk => absurd hk (Nat.not_lt_zero k)⟩
theorem create_fin (τ : St) (c w k : Int32) : sI (sI (sJ (sI (sI (sI (sI (sS τ 14 (τ.2.2 14 + 1)) 0 (ix (τ.2.2 14)) c) 1 (ix (τ.2.2 14)) w) 2 (ix (τ.2.2 14)) k) 3 (ix (τ.2.2 14)) 0) 4 (ix (τ.2.2 14)) (if lg_cmp (τ.2.1 7 (ix c)) 0 ≤ 0 then 0 else τ.2.1 7 (ix c))) 5 (ix (τ.2.2 14)) 0) 6 (ix (τ.2.2 14)) 0 = g_X0_createTask T C τ c w k := by
  unfold g_X0_createTask g_X0_enterQueue
  generalize hi : ix (τ.2.2 14) = i
  refine St_ext (fun b j => ?_) (fun b j => ?_) (fun _ => rfl)
  · generalize hB : sI (sI (sI (sS τ 14 (τ.2.2 14 + 1)) 0 i c) 1 i w) 2 i k = B
    rw [sI_at, sI_at]
    show (if b = 6 ∧ j = i then (0 : Int32) else if b = 5 ∧ j = i then 0 else (sI B 3 i 0).1 b j) = _
    rw [sI_at, sI_at]
    show _ = (if b = 3 ∧ j = i then (0 : Int32) else (sI (sI (sJ B 4 i 0) 5 i 0) 6 i 0).1 b j)
    rw [sI_at, sI_at]
    show _ = (if b = 3 ∧ j = i then (0 : Int32) else if b = 6 ∧ j = i then 0 else if b = 5 ∧ j = i then 0 else B.1 b j)
    by_cases h6 : b = 6 ∧ j = i
    · simp only [if_pos h6, ite_self]
    · by_cases h5 : b = 5 ∧ j = i
      · simp only [if_pos h5, ite_self]
      · simp only [if_neg h6, if_neg h5]
  · have hc : (sI (sI (sI (sS τ 14 (τ.2.2 14 + 1)) 0 i c) 1 i w) 2 i k).1 0 i = c := by
      rw [sI_at, if_neg (by omega), sI_at, if_neg (by omega), sI_at, if_pos ⟨rfl, rfl⟩]
    generalize hB : sI (sI (sI (sS τ 14 (τ.2.2 14 + 1)) 0 i c) 1 i w) 2 i k = B at hc
    have hb : B.2.1 = τ.2.1 := by rw [← hB]; rfl
    show (sJ (sI B 3 i 0) 4 i (if lg_cmp (τ.2.1 7 (ix c)) 0 ≤ 0 then 0 else τ.2.1 7 (ix c))).2.1 b j = (sJ (sI (sI (sJ B 4 i 0) 5 i 0) 6 i 0) 4 i (if ((sI (sI (sJ B 4 i 0) 5 i 0) 6 i 0).2.1 7 (ix ((sI (sI (sJ B 4 i 0) 5 i 0) 6 i 0).1 0 i))) < ((sI (sI (sJ B 4 i 0) 5 i 0) 6 i 0).2.1 4 i) then ((sI (sI (sJ B 4 i 0) 5 i 0) 6 i 0).2.1 4 i) else ((sI (sI (sJ B 4 i 0) 5 i 0) 6 i 0).2.1 7 (ix ((sI (sI (sJ B 4 i 0) 5 i 0) 6 i 0).1 0 i))))).2.1 b j
    have e0 : (sI (sI (sJ B 4 i 0) 5 i 0) 6 i 0).1 0 i = c := hc
    have e4 : (sI (sI (sJ B 4 i 0) 5 i 0) 6 i 0).2.1 4 i = 0 := by
      show (sJ B 4 i 0).2.1 4 i = 0
      rw [sJ_at, if_pos ⟨rfl, rfl⟩]
    have e7 : ∀ x, (sI (sI (sJ B 4 i 0) 5 i 0) 6 i 0).2.1 7 x = τ.2.1 7 x := by
      intro x
      show (sJ B 4 i 0).2.1 7 x = _
      rw [sJ_at, if_neg (by omega), hb]
    rw [e0, e4, e7, sJ_at, sJ_at]
    have em : (if lg_cmp (τ.2.1 7 (ix c)) 0 ≤ 0 then (0 : Int64) else τ.2.1 7 (ix c)) = (if τ.2.1 7 (ix c) < 0 then 0 else τ.2.1 7 (ix c)) := by
      generalize τ.2.1 7 (ix c) = x
      rw [max_eq]
      by_cases h : 0 < x
      · rw [if_pos h]
        have h2 : ¬ x < 0 := by
          intro q
          rw [Int64.lt_iff_toInt_lt] at q h
          omega
        rw [if_neg h2]
      · rw [if_neg h]
        by_cases h2 : x < 0
        · rw [if_pos h2]
        · rw [if_neg h2]
          rw [Int64.lt_iff_toInt_lt] at h h2
          exact Int64.toInt_inj.mp (by omega)
    rw [em]
    by_cases h : b = 4 ∧ j = i
    · rw [if_pos h, if_pos h]
    · rw [if_neg h, if_neg h]
      show B.2.1 b j = (sJ B 4 i 0).2.1 b j
      rw [sJ_at, if_neg h]
theorem q_createTask (hT : T ≤ 16) (hC : 1 ≤ C ∧ C ≤ 4) (hI : Inv T C σ) (c w k : Int32) : Same (e_X0_createTask T C σ c w k) σ (g_X1_createTask T C σ c w k) (f_X1_createTask T C σ c w k) (g_X0_createTask T C (sS σ 17 0) c w k) (f_X0_createTask T C (sS σ 17 0) c w k) := by
  have hn : (σ.2.2 14 = 16) ↔ ¬ σ.2.2 14 < 16 := by
    rw [hI.2.1]
    have a : (nI T < 16) ↔ T < 16 := nI_ltI (a := T) (b := 16) (by omega) (by decide)
    have b : (nI T = 16) ↔ T = 16 := nI_eq (a := T) (b := 16) (by omega) (by decide)
    rw [a, b]
    omega
  have hr : rc (if (f_X1_noCpu T C σ c) = 0 then (if (f_X1_noWeight w) = 0 then (if (f_X1_noCookie k) = 0 then 0 else 1) else 1) else 1) (if (σ.2.2 14) = 16 then 1 else 0) = e_X0_createTask T C σ c w k := by
    unfold rc e_X0_createTask
    rw [noCpu_eq hI hC, eCpu_eq hI, eWeight_eq, eCookie_eq]
    by_cases c0 : out c (2 * C) = 0
    · by_cases c1 : f_X1_noWeight w = 0
      · by_cases c2 : f_X1_noCookie k = 0
        · by_cases c3 : σ.2.2 14 < 16
          · have c4 : ¬ σ.2.2 14 = 16 := fun q => hn.mp q c3
            simp [c0, c1, c2, c3, c4]
          · have c4 : σ.2.2 14 = 16 := hn.mpr c3
            simp [c0, c1, c2, c4]
        · simp [c0, c1, c2]
      · simp [c0, c1]
    · simp [c0]
  obtain ⟨h1, h2⟩ := sm (T := T) (C := C) (σ := σ) hr
  refine ⟨fun h0 => ?_, fun h0 => ?_⟩
  · have h3 : g_X1_isRefused T C σ (if (f_X1_noCpu T C σ c) = 0 then (if (f_X1_noWeight w) = 0 then (if (f_X1_noCookie k) = 0 then 0 else 1) else 1) else 1) (if (σ.2.2 14) = 16 then 1 else 0) = sS σ 17 0 := by rw [h2, h0]
    unfold g_X1_createTask f_X1_createTask
    rw [if_pos (h1.mpr h0), if_pos (h1.mpr h0), h3]
    exact ⟨create_fin (T := T) (C := C) (sS σ 17 0) c w k, rfl, rfl⟩
  · unfold g_X1_createTask
    rw [if_neg (fun q => h0 (h1.mp q)), h2]
end Q
