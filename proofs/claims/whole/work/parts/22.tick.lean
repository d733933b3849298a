/-! a tick -/
/-- reading a row that a write leaves alone -/
theorem sI_o (σ : St) {a b : Nat} (h : b ≠ a) (i : Nat) (v : Int32) : (sI σ a i v).1 b = σ.1 b := by
  funext j
  rw [sI_at, if_neg (fun q => h q.1)]
theorem charge_step {T C : Nat} (hT : T ≤ 16) {i : Nat} (z : Int32 × St) (hi : i < T) (hw : ¬ z.2.1 1 i < 1) : F_X1_tickOne_25 i z = F_X0_chargeTasks_4 i z := by
  have e : ix (nI i) = i := ixn (by omega)
  have w1 : (1 : Int32) ≤ z.2.1 1 i := Int32.not_lt.mp hw
  unfold F_X1_tickOne_25 F_X0_chargeTasks_4 f_X0_costOfTick
  rw [e]
  by_cases h1 : z.2.1 3 i = 1
  · have h0 : ¬ z.2.1 3 i = 0 := by rw [h1]; decide
    simp only [if_pos h1]
    refine Prod.ext rfl ?_
    show sI (sJ (sI z.2 5 i (z.2.1 5 i + 1)) 4 i (z.2.2.1 4 i + Int32.toInt64 (5040 / z.2.1 1 i))) 6 i (z.2.1 6 i + (if z.2.1 3 i = 0 then 1 else 0)) = sJ (sI z.2 5 i (z.2.1 5 i + 1)) 4 i (z.2.2.1 4 i + Int32.toInt64 (if 1 ≤ z.2.1 1 i then 5040 / z.2.1 1 i else 5040))
    rw [if_pos w1, if_neg h0, Int32.add_zero]
    exact sI_self _ 6 i _ rfl
  · simp only [if_neg h1]
    refine Prod.ext rfl ?_
    show sI z.2 6 i (z.2.1 6 i + (if z.2.1 3 i = 0 then 1 else 0)) = (if z.2.1 3 i = 0 then sI z.2 6 i (z.2.1 6 i + 1) else z.2)
    by_cases h0 : z.2.1 3 i = 0
    · rw [if_pos h0, if_pos h0]
    · rw [if_neg h0, if_neg h0, Int32.add_zero]
      exact sI_self _ 6 i _ rfl
theorem charge_row1 (i : Nat) (z : Int32 × St) : (F_X0_chargeTasks_4 i z).2.1 1 = z.2.1 1 := by
  unfold F_X0_chargeTasks_4
  show (if _ then _ else _ : St).1 1 = _
  split
  · rfl
  · split
    · rfl
    · rfl
theorem charge_eq {T C : Nat} (hT : T ≤ 16) (σ : St) (hI : Inv T C σ) : lp F_X1_tickOne_25 T 0 (0, σ) = lp F_X0_chargeTasks_4 T 0 (0, σ) := by
  refine lp_extI (N := T) (fun _ z => z.2.1 1 = σ.1 1) (fun i z hi hz => ?_) T 0 (0, σ) (by omega) rfl
  refine ⟨charge_step (C := C) hT z hi (by rw [hz]; exact hI.2.2.2 i hi), ?_⟩
  show (F_X0_chargeTasks_4 i z).2.1 1 = σ.1 1
  rw [charge_row1]
  exact hz
/-- the reference's idle counts are the class's -/
def ci (i : Nat) (z : St) : St := sI (sI z 10 (ix (nI i)) ((z.1 10 (ix (nI i))) + (if (z.1 8 (ix (nI i))) = (-1) then (if (z.1 9 (ix (nI i))) = 0 then 1 else 0) else 0))) 11 (ix (nI i)) ((z.1 11 (ix (nI i))) + (if (z.1 8 (ix (nI i))) = (-1) then (if (z.1 9 (ix (nI i))) = 0 then 0 else 1) else 0))
theorem ci_eq (i : Nat) (z : St) : ci i z = F_X0_countIdleCpus_2 i z := by
  unfold ci F_X0_countIdleCpus_2
  by_cases h1 : z.1 8 (ix (nI i)) = (-1)
  · simp only [if_pos h1]
    by_cases h2 : z.1 9 (ix (nI i)) = 0
    · simp only [if_pos h2, Int32.add_zero]
      exact sI_self _ 11 _ _ rfl
    · simp only [if_neg h2, Int32.add_zero]
      rw [sI_self z 10 _ _ rfl]
  · simp only [if_neg h1, Int32.add_zero]
    rw [sI_self z 10 _ _ rfl]
    exact sI_self z 11 _ _ rfl
theorem least_eq (T C i : Nat) (z : St) : lp (F_X1_tickOne_188 T C i z) T 0 (-1) = f_X0_findLeastTime T C z (nI i) := by
  refine lp_ext (N := T) (fun t y _ => ?_) T 0 (-1) (by omega)
  show (if (f_X0_isRunnable T C z (nI t)) = 0 then y else (if z.1 0 (ix (nI t)) = nI i then (if y = (-1) then (nI t) else (if 0 ≤ (lg_cmp (z.2.1 4 (ix (nI t))) (z.2.1 4 (ix y))) then y else (nI t))) else y)) = _
  unfold F_X0_findLeastTime_4 f_X0_isQueued
  by_cases h : z.1 0 (ix (nI t)) = nI i
  · by_cases h2 : f_X0_isRunnable T C z (nI t) = 0
    · simp only [if_pos h, if_pos h2, if_true]
    · simp only [if_pos h, if_neg h2, if_neg ne10]
  · by_cases h2 : f_X0_isRunnable T C z (nI t) = 0
    · simp only [if_neg h, if_pos h2, if_true]
    · simp only [if_neg h, if_neg h2, if_true]
theorem base_step (T C i : Nat) (z : St) : F_X1_tickOne_107 T C i z = F_X0_raiseBases_2 T C i (F_X0_countIdleCpus_2 i z) := by
  rw [← ci_eq]
  have hz : f_X0_findLeastTime T C (ci i z) (nI i) = f_X0_findLeastTime T C z (nI i) := rfl
  have e : F_X1_tickOne_107 T C i z = sJ (ci i z) 7 (ix (nI i)) (if f_X0_findLeastTime T C z (nI i) = (-1) then z.2.1 7 (ix (nI i)) else (if (lg_cmp (z.2.1 4 (ix (f_X0_findLeastTime T C z (nI i)))) (z.2.1 7 (ix (nI i)))) ≤ 0 then z.2.1 7 (ix (nI i)) else z.2.1 4 (ix (f_X0_findLeastTime T C z (nI i))))) := by
    rw [← least_eq]
    rfl
  rw [e]
  unfold F_X0_raiseBases_2
  rw [hz]
  show _ = (if f_X0_findLeastTime T C z (nI i) = (-1) then ci i z else (sJ (ci i z) 7 (ix (nI i)) (if (z.2.1 4 (ix (f_X0_findLeastTime T C z (nI i)))) < (z.2.1 7 (ix (nI i))) then (z.2.1 7 (ix (nI i))) else (z.2.1 4 (ix (f_X0_findLeastTime T C z (nI i)))))))
  by_cases h1 : f_X0_findLeastTime T C z (nI i) = (-1)
  · rw [if_pos h1, if_pos h1]
    exact sJ_self _ 7 _ _ rfl
  · rw [if_neg h1, if_neg h1]
    congr 1
    generalize z.2.1 4 (ix (f_X0_findLeastTime T C z (nI i))) = a
    generalize z.2.1 7 (ix (nI i)) = b
    by_cases h2 : a ≤ b
    · rw [if_pos ((lg_cmp_le a b).mpr h2)]
      by_cases h3 : a < b
      · rw [if_pos h3]
      · rw [if_neg h3]
        rw [Int64.lt_iff_toInt_lt] at h3
        rw [Int64.le_iff_toInt_le] at h2
        exact Int64.toInt_inj.mp (by omega)
    · rw [if_neg (fun q => h2 ((lg_cmp_le a b).mp q))]
      have h3 : ¬ a < b := by
        intro q
        apply h2
        rw [Int64.lt_iff_toInt_lt] at q
        rw [Int64.le_iff_toInt_le]
        omega
      rw [if_neg h3]
theorem cr_comm (T C i j : Nat) (z : St) : F_X0_countIdleCpus_2 i (F_X0_raiseBases_2 T C j z) = F_X0_raiseBases_2 T C j (F_X0_countIdleCpus_2 i z) := by
  rw [← ci_eq, ← ci_eq]
  have hz : f_X0_findLeastTime T C (ci i z) (nI j) = f_X0_findLeastTime T C z (nI j) := rfl
  unfold F_X0_raiseBases_2
  rw [hz]
  by_cases h1 : f_X0_findLeastTime T C z (nI j) = (-1)
  · rw [if_pos h1, if_pos h1]
  · rw [if_neg h1, if_neg h1]
    rfl
theorem tail_eq (T C n : Nat) (z : St) : lp (F_X1_tickOne_107 T C) n 0 z = lp (F_X0_raiseBases_2 T C) n 0 (lp F_X0_countIdleCpus_2 n 0 z) := by
  rw [← lp_fuse (fun i j a => cr_comm T C i j a) n 0 z]
  exact lp_ext (N := n) (fun i a _ => base_step T C i a) n 0 z (by omega)
/-- what the class's methods do to the invariant, said of the pictures alone -/
theorem inv_mv {T C : Nat} {z : St} {t c : Int32} (h : Inv T C z) (hc : vp_in c 8) : Inv T C (g_X0_moveRunnable T C z t c) := inv_cpu hc (inv_sJ h)
theorem inv_lp {T C N : Nat} {f : Nat → St → St} (h : ∀ i z, i < N → Inv T C z → Inv T C (f i z)) : ∀ n i z, i + n ≤ N → Inv T C z → Inv T C (lp f n i z) := fun n i z hn hz => lp_inv (N := N) (fun _ z => Inv T C z) (fun i a hi ha => h i a hi ha) n i z hn hz
theorem inv_release {T C : Nat} {z : St} (r : Int32) (h : Inv T C z) : Inv T C (g_X0_releaseTasks T C z r) := by
  refine inv_lp (N := T) (fun i z _ hz => ?_) T 0 z (by omega) h
  unfold F_X0_releaseTasks_2
  split
  · split
    · exact hz
    · exact inv_sI (by decide) hz
  · exact hz
theorem inv_take {T C : Nat} {z : St} {c k : Int32} (hc : vp_in c 8) (h : Inv T C z) : Inv T C (g_X0_takeTask T C z c k) := by
  unfold g_X0_takeTask
  split
  · split
    · exact h
    · split
      · exact h
      · exact inv_sS (by decide) (inv_mv h hc)
  · exact h
theorem inv_give {T C : Nat} {z : St} {c t : Int32} (h : Inv T C z) : Inv T C (g_X0_giveToCpu T C z c t) := by
  unfold g_X0_giveToCpu
  split
  · exact inv_sI (by decide) (inv_sI (by decide) h)
  · exact inv_sI (by decide) (inv_sI (by decide) (inv_sI (by decide) h))
theorem inv_pick {T C : Nat} {z : St} {j : Nat} (hj : j < 4) (h : Inv T C z) : Inv T C (g_X0_pickForCore T C z j) := by
  unfold g_X0_pickForCore
  refine inv_lp (N := 2 * j + 2) (fun i y hi hy => ?_) 2 (2 * j) _ (by omega) (inv_release _ (inv_sI (by decide) h))
  unfold F_X0_pickForCore_43
  refine inv_give ?_
  split
  · exact hy
  · exact inv_take (vp_in_nI (by omega) (by decide)) hy
theorem inv_ch1 {T C i : Nat} {a : Int32 × St} (ha : Inv T C a.2) : Inv T C (F_X0_chargeTasks_4 i a).2 := by
  have e : (F_X0_chargeTasks_4 i a).2 = (if (a.2.1 3 (ix (nI i))) = 1 then (sJ (sI a.2 5 (ix (nI i)) (a.2.1 5 (ix (nI i)) + 1)) 4 (ix (nI i)) (((sI a.2 5 (ix (nI i)) (a.2.1 5 (ix (nI i)) + 1)).2.1 4 (ix (nI i))) + (Int32.toInt64 (f_X0_costOfTick ((sI a.2 5 (ix (nI i)) (a.2.1 5 (ix (nI i)) + 1)).1 1 (ix (nI i))))))) else (if (a.2.1 3 (ix (nI i))) = 0 then (sI a.2 6 (ix (nI i)) (a.2.1 6 (ix (nI i)) + 1)) else a.2)) := rfl
  rw [e]
  exact inv_ite (inv_sJ (inv_sI (by decide) ha)) (inv_ite (inv_sI (by decide) ha) ha)
theorem inv_charge {T C : Nat} {z : St} (h : Inv T C z) : Inv T C (g_X0_chargeTasks T C z) := by
  have key : ∀ n i (a : Int32 × St), Inv T C a.2 → Inv T C (lp F_X0_chargeTasks_4 n i a).2 := by
    intro n
    induction n with
    | zero => intro i a ha; exact ha
    | succ n ih => intro i a ha; exact ih (i + 1) _ (inv_ch1 ha)
  unfold g_X0_chargeTasks
  exact key T 0 (0, z) h
theorem inv_idle {T C : Nat} {z : St} (h : Inv T C z) : Inv T C (g_X0_countIdleCpus T C z) := by
  refine inv_lp (N := 2 * C) (fun i y _ hy => ?_) (2 * C) 0 z (by omega) h
  unfold F_X0_countIdleCpus_2
  split
  · split
    · exact inv_sI (by decide) hy
    · exact inv_sI (by decide) hy
  · exact hy
theorem inv_bases {T C : Nat} {z : St} (h : Inv T C z) : Inv T C (g_X0_raiseBases T C z) := by
  refine inv_lp (N := 2 * C) (fun i y _ hy => ?_) (2 * C) 0 z (by omega) h
  unfold F_X0_raiseBases_2
  split
  · exact hy
  · exact inv_sJ hy
theorem picks_eq {T C : Nat} (hT : T ≤ 16) (hC : 1 ≤ C ∧ C ≤ 4) (σ : St) (hI : Inv T C σ) : lp (F_X1_tickOne_2 T C) C 0 σ = lp (F_X0_simulateTick_2 T C) C 0 σ ∧ Inv T C (lp (F_X0_simulateTick_2 T C) C 0 σ) := by
  refine ⟨?_, ?_⟩
  · exact lp_extI (N := C) (fun _ z => Inv T C z) (fun i z hi hz => ⟨pick_eq hT hz (by omega), inv_pick (by omega) hz⟩) C 0 σ (by omega) hI
  · exact inv_lp (N := C) (fun i z hi hz => inv_pick (by omega) hz) C 0 σ (by omega) hI
theorem tick_eq {T C : Nat} (hT : T ≤ 16) (hC : 1 ≤ C ∧ C ≤ 4) (σ : St) (hI : Inv T C σ) : f_X1_tickOne T C σ = f_X0_simulateTick T C σ ∧ g_X1_tickOne T C σ = g_X0_simulateTick T C σ ∧ Inv T C (g_X0_simulateTick T C σ) := by
  obtain ⟨p1, p2⟩ := picks_eq hT hC σ hI
  have c1 := charge_eq hT _ p2
  refine ⟨?_, ?_, inv_bases (inv_idle (inv_charge p2))⟩
  · show (lp F_X1_tickOne_25 T 0 (0, lp (F_X1_tickOne_2 T C) C 0 σ)).1 = _
    rw [p1, c1]
    rfl
  · show lp (F_X1_tickOne_107 T C) (2 * C) 0 (lp F_X1_tickOne_25 T 0 (0, lp (F_X1_tickOne_2 T C) C 0 σ)).2 = _
    rw [p1, c1, tail_eq]
    rfl
