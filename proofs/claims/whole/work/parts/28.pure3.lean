/-! what a call keeps of the numbers of the law: run and wait ticks stay small, stealing is 0 or 1 -/
def K3 (σ τ : St) : Prop := τ.1 5 = σ.1 5 ∧ τ.1 6 = σ.1 6 ∧ τ.2.2 16 = σ.2.2 16
theorem K3.rf (σ : St) : K3 σ σ := ⟨rfl, rfl, rfl⟩
theorem K3.tr {a b c : St} (h : K3 a b) (g : K3 b c) : K3 a c := ⟨g.1.trans h.1, g.2.1.trans h.2.1, g.2.2.trans h.2.2⟩
theorem K3.ite {P : Prop} [Decidable P] {σ a b : St} (ha : K3 σ a) (hb : K3 σ b) : K3 σ (if P then a else b) := by split <;> assumption
theorem K3.lp {f : Nat → St → St} (hf : ∀ i z, K3 z (f i z)) : ∀ (n i : Nat) (σ : St), K3 σ (lp f n i σ)
  | 0, _, σ => K3.rf σ
  | n + 1, i, σ => (hf i σ).tr (K3.lp hf n (i + 1) (f i σ))
theorem k3_rel (T C : Nat) (σ : St) (r : Int32) : K3 σ (g_X0_releaseTasks T C σ r) := by
  unfold g_X0_releaseTasks
  refine K3.lp (fun i z => ?_) _ _ _
  unfold F_X0_releaseTasks_2
  exact K3.ite (K3.ite (K3.rf z) ⟨rfl, rfl, rfl⟩) (K3.rf z)
theorem k3_move (T C : Nat) (σ : St) (t c : Int32) : K3 σ (g_X0_moveRunnable T C σ t c) := ⟨rfl, rfl, rfl⟩
theorem k3_take (T C : Nat) (σ : St) (c k : Int32) : K3 σ (g_X0_takeTask T C σ c k) := by
  unfold g_X0_takeTask
  refine K3.ite (K3.ite (K3.rf σ) (K3.ite (K3.rf σ) ?_)) (K3.rf σ)
  exact (k3_move T C σ _ c).tr ⟨rfl, rfl, rfl⟩
theorem k3_give (T C : Nat) (σ : St) (c t : Int32) : K3 σ (g_X0_giveToCpu T C σ c t) := by
  unfold g_X0_giveToCpu
  exact K3.ite ⟨rfl, rfl, rfl⟩ ⟨rfl, rfl, rfl⟩
theorem k3_pick (T C : Nat) (σ : St) (j : Nat) : K3 σ (g_X0_pickForCore T C σ j) := by
  unfold g_X0_pickForCore
  refine K3.tr (b := sI σ 12 (ix (nI j)) (if (f_X0_findLeader T C σ (nI j)) = (-1) then (-1) else (σ.1 2 (ix (f_X0_findLeader T C σ (nI j)))))) ⟨rfl, rfl, rfl⟩ (K3.tr (k3_rel T C _ (nI j)) (K3.lp (fun i z => ?_) _ _ _))
  unfold F_X0_pickForCore_43
  exact K3.tr (K3.ite (K3.rf z) (k3_take T C z _ _)) (k3_give T C _ _ _)
theorem k3_idle (T C : Nat) (σ : St) : K3 σ (g_X0_countIdleCpus T C σ) := by
  unfold g_X0_countIdleCpus
  refine K3.lp (fun i z => ?_) _ _ _
  unfold F_X0_countIdleCpus_2
  exact K3.ite (K3.ite ⟨rfl, rfl, rfl⟩ ⟨rfl, rfl, rfl⟩) (K3.rf z)
theorem k3_raise (T C : Nat) (σ : St) : K3 σ (g_X0_raiseBases T C σ) := by
  unfold g_X0_raiseBases
  refine K3.lp (fun i z => ?_) _ _ _
  unfold F_X0_raiseBases_2
  exact K3.ite (K3.rf z) ⟨rfl, rfl, rfl⟩
/-- one task's counts: as they were, or one of them more by one -/
def D1 (σ τ : St) (k : Nat) : Prop := (τ.1 5 k = σ.1 5 k ∧ τ.1 6 k = σ.1 6 k) ∨ (τ.1 5 k = σ.1 5 k + 1 ∧ τ.1 6 k = σ.1 6 k) ∨ (τ.1 5 k = σ.1 5 k ∧ τ.1 6 k = σ.1 6 k + 1)
theorem upd_at (f : Nat → Int32) (i : Nat) (v : Int32) : upd f i v i = v := by unfold upd; simp
theorem upd_of (f : Nat → Int32) (i k : Nat) (v : Int32) (h : ¬ k = i) : upd f i v k = f k := by unfold upd; simp [h]
theorem charge1 (i : Nat) (hi : i < 2 ^ 31) (z : Int32 × St) : (∀ k, ¬ k = i → (F_X0_chargeTasks_4 i z).2.1 5 k = z.2.1 5 k ∧ (F_X0_chargeTasks_4 i z).2.1 6 k = z.2.1 6 k) ∧ D1 z.2 (F_X0_chargeTasks_4 i z).2 i ∧ (F_X0_chargeTasks_4 i z).2.2.2 16 = z.2.2.2 16 := by
  have hx : ix (nI i) = i := nI_clamp hi
  unfold F_X0_chargeTasks_4
  rw [hx]
  by_cases h1 : z.2.1 3 i = 1
  · rw [if_pos h1, if_pos h1]
    refine ⟨fun k hk => ⟨upd_of _ _ _ _ hk, rfl⟩, Or.inr (Or.inl ⟨upd_at _ _ _, rfl⟩), rfl⟩
  · rw [if_neg h1, if_neg h1]
    by_cases h0 : z.2.1 3 i = 0
    · rw [if_pos h0]
      refine ⟨fun k hk => ⟨rfl, upd_of _ _ _ _ hk⟩, Or.inr (Or.inr ⟨rfl, upd_at _ _ _⟩), rfl⟩
    · rw [if_neg h0]
      exact ⟨fun k _ => ⟨rfl, rfl⟩, Or.inl ⟨rfl, rfl⟩, rfl⟩
theorem chargeN : ∀ (n i : Nat) (z : Int32 × St), i + n < 2 ^ 31 → (∀ k, k < i → (lp F_X0_chargeTasks_4 n i z).2.1 5 k = z.2.1 5 k ∧ (lp F_X0_chargeTasks_4 n i z).2.1 6 k = z.2.1 6 k) ∧ (∀ k, D1 z.2 (lp F_X0_chargeTasks_4 n i z).2 k) ∧ (lp F_X0_chargeTasks_4 n i z).2.2.2 16 = z.2.2.2 16
  | 0, i, z, _ => ⟨fun _ _ => ⟨rfl, rfl⟩, fun _ => Or.inl ⟨rfl, rfl⟩, rfl⟩
  | n + 1, i, z, h => by
    obtain ⟨a1, a2, a3⟩ := charge1 i (by omega) z
    obtain ⟨b1, b2, b3⟩ := chargeN n (i + 1) (F_X0_chargeTasks_4 i z) (by omega)
    show (∀ k, k < i → (lp F_X0_chargeTasks_4 n (i + 1) (F_X0_chargeTasks_4 i z)).2.1 5 k = z.2.1 5 k ∧ (lp F_X0_chargeTasks_4 n (i + 1) (F_X0_chargeTasks_4 i z)).2.1 6 k = z.2.1 6 k) ∧ (∀ k, D1 z.2 (lp F_X0_chargeTasks_4 n (i + 1) (F_X0_chargeTasks_4 i z)).2 k) ∧ (lp F_X0_chargeTasks_4 n (i + 1) (F_X0_chargeTasks_4 i z)).2.2.2 16 = z.2.2.2 16
    refine ⟨fun k hk => ?_, fun k => ?_, b3.trans a3⟩
    · obtain ⟨c1, c2⟩ := b1 k (by omega)
      obtain ⟨d1, d2⟩ := a1 k (by omega)
      exact ⟨c1.trans d1, c2.trans d2⟩
    · by_cases hk : k = i
      · obtain ⟨c1, c2⟩ := b1 k (by omega)
        unfold D1
        rw [c1, c2, hk]
        exact a2
      · obtain ⟨d1, d2⟩ := a1 k hk
        have := b2 k
        unfold D1 at this ⊢
        rw [d1, d2] at this
        exact this
theorem Rw.k3 {N : Nat} {σ τ : St} (h : Rw N σ) (hk : K3 σ τ) : Rw N τ := fun k => by
  obtain ⟨a, b, h1, h2, h3⟩ := h k
  exact ⟨a, b, by rw [hk.1]; exact h1, by rw [hk.2.1]; exact h2, h3⟩
theorem sim_keeps {T C N : Nat} (hT : T ≤ 16) {σ : St} (h : Rw N σ) : Rw (N + 1) (g_X0_simulateTick T C σ) ∧ (g_X0_simulateTick T C σ).2.2 16 = σ.2.2 16 := by
  unfold g_X0_simulateTick
  have k0 : K3 σ (lp (F_X0_simulateTick_2 T C) C 0 σ) := K3.lp (fun i z => k3_pick T C z i) _ _ _
  obtain ⟨-, b2, b3⟩ := chargeN T 0 (0, lp (F_X0_simulateTick_2 T C) C 0 σ) (by omega)
  have k1 : Rw (N + 1) (g_X0_chargeTasks T C (lp (F_X0_simulateTick_2 T C) C 0 σ)) := fun k => by
    obtain ⟨a, b, h1, h2, h3⟩ := (h.k3 k0) k
    unfold g_X0_chargeTasks
    rcases b2 k with ⟨c1, c2⟩ | ⟨c1, c2⟩ | ⟨c1, c2⟩
    · exact ⟨a, b, c1.trans h1, c2.trans h2, by omega⟩
    · exact ⟨a + 1, b, by rw [c1, nI_succ]; exact congrArg (· + 1) h1, c2.trans h2, by omega⟩
    · exact ⟨a, b + 1, c1.trans h1, by rw [c2, nI_succ]; exact congrArg (· + 1) h2, by omega⟩
  have k2 := (k3_idle T C (g_X0_chargeTasks T C (lp (F_X0_simulateTick_2 T C) C 0 σ))).tr (k3_raise T C _)
  refine ⟨k1.k3 k2, ?_⟩
  rw [k2.2.2]
  exact b3.trans k0.2.2
theorem tick_keeps {T C : Nat} (hT : T ≤ 16) : ∀ (n i N : Nat) (x : Int32) (σ : St), Rw N σ → Rw (N + n) (lp (F_X0_tick_25 T C) n i (x, σ)).2 ∧ (lp (F_X0_tick_25 T C) n i (x, σ)).2.2.2 16 = σ.2.2 16
  | 0, _, _, _, _, h => ⟨h, rfl⟩
  | n + 1, i, N, x, σ, h => by
    obtain ⟨h1, h2⟩ := sim_keeps (C := C) hT h
    obtain ⟨h3, h4⟩ := tick_keeps hT n (i + 1) (N + 1) (x + f_X0_simulateTick T C σ) (g_X0_simulateTick T C σ) h1
    exact ⟨Rw.mono h3 (by omega), h4.trans h2⟩
theorem LPs.k3 {T C n : Nat} {σ τ : St} (h : LPs T C n σ) (hk : K3 σ τ) (hI : Inv T C τ) : LPs T C (n + 1) τ := ⟨h.1, h.2.1, hI, by rw [hk.2.2]; exact h.2.2.2.1, (h.2.2.2.2.k3 hk).mono (by omega)⟩
theorem k3_17 (σ : St) (c : Int32) : K3 σ (sS σ 17 c) := ⟨rfl, rfl, rfl⟩
section PL
variable {T C n : Nat} {σ : St}
theorem pl_tick (h : LPs T C n σ) (t : Int32) (he : e_X0_tick T C σ t = 0) (hI : Inv T C (g_X0_tick T C (sS σ 17 0) t)) : LPs T C (n + 1) (g_X0_tick T C (sS σ 17 0) t) := by
  have hi : ix t ≤ 100 := by
    unfold e_X0_tick at he
    by_cases h1 : t < 1
    · rw [if_pos h1] at he; exact absurd he (by decide)
    · rw [if_neg h1] at he
      by_cases h2 : t ≤ 100
      · have := Int32.le_iff_toInt_le.mp h2
        have h3 : (100 : Int32).toInt = 100 := by decide
        rw [h3] at this
        show t.toInt.toNat ≤ 100
        omega
      · rw [if_neg h2] at he; exact absurd he (by decide)
  obtain ⟨h1, h2⟩ := tick_keeps (T := T) (C := C) h.1 (ix t) 0 (100 * n) 0 (sS σ 17 0) (h.2.2.2.2.k3 (k3_17 σ 0))
  refine ⟨h.1, h.2.1, hI, ?_, Rw.mono h1 (by omega)⟩
  have h3 : (g_X0_tick T C (sS σ 17 0) t).2.2 16 = σ.2.2 16 := h2
  rw [h3]; exact h.2.2.2.1
theorem k3_stop (τ : St) (t z : Int32) : K3 τ (g_X0_stopTask T C τ t z) := by
  unfold g_X0_stopTask
  exact K3.tr (K3.ite (⟨rfl, rfl, rfl⟩ : K3 τ (sI τ 8 _ _)) (K3.rf τ)) ⟨rfl, rfl, rfl⟩
theorem pl_sleep (h : LPs T C n σ) (t : Int32) (hI : Inv T C (g_X0_sleep T C (sS σ 17 0) t)) : LPs T C (n + 1) (g_X0_sleep T C (sS σ 17 0) t) := h.k3 ((k3_17 σ 0).tr (k3_stop _ t 2)) hI
theorem pl_exit (h : LPs T C n σ) (t : Int32) (hI : Inv T C (g_X0_exit T C (sS σ 17 0) t)) : LPs T C (n + 1) (g_X0_exit T C (sS σ 17 0) t) := h.k3 ((k3_17 σ 0).tr (k3_stop _ t 3)) hI
theorem pl_wake (h : LPs T C n σ) (t : Int32) (hI : Inv T C (g_X0_wake T C (sS σ 17 0) t)) : LPs T C (n + 1) (g_X0_wake T C (sS σ 17 0) t) := h.k3 ((k3_17 σ 0).tr ⟨rfl, rfl, rfl⟩) hI
theorem pl_setWeight (h : LPs T C n σ) (t w : Int32) (hI : Inv T C (g_X0_setWeight T C (sS σ 17 0) t w)) : LPs T C (n + 1) (g_X0_setWeight T C (sS σ 17 0) t w) := h.k3 ((k3_17 σ 0).tr ⟨rfl, rfl, rfl⟩) hI
theorem pl_setCookie (h : LPs T C n σ) (t w : Int32) (hI : Inv T C (g_X0_setCookie T C (sS σ 17 0) t w)) : LPs T C (n + 1) (g_X0_setCookie T C (sS σ 17 0) t w) := h.k3 ((k3_17 σ 0).tr ⟨rfl, rfl, rfl⟩) hI
theorem pl_moveTask (h : LPs T C n σ) (t c : Int32) (hI : Inv T C (g_X0_moveTask T C (sS σ 17 0) t c)) : LPs T C (n + 1) (g_X0_moveTask T C (sS σ 17 0) t c) := h.k3 ((k3_17 σ 0).tr (by
  unfold g_X0_moveTask
  exact K3.ite (k3_move T C _ t c) ⟨rfl, rfl, rfl⟩)) hI
theorem pl_reset (h : LPs T C n σ) (c : Int32) (he : e_X0_reset T C σ c = 0) : ∃ T1 C1 : Nat, LPs T1 C1 (n + 1) (g_X0_reset T C (sS σ 17 0) c) := by
  obtain ⟨D, hD1, hD2, rfl⟩ := cores_of he
  exact ⟨0, D, by decide, ⟨hD1, hD2⟩, inv_anew (sS σ 17 0) h.2.2.1.1, Or.inl rfl, Rw.mono (Rw.k3 (σ := σ) (τ := σ) h.2.2.2.2 (K3.rf σ) : Rw (100 * n) (g_X0_reset T C (sS σ 17 0) (nI D))) (by omega)⟩
theorem pl_createTask (h : LPs T C n σ) (c w k : Int32) (he : e_X0_createTask T C σ c w k = 0) : ∃ T1 C1 : Nat, LPs T1 C1 (n + 1) (g_X0_createTask T C (sS σ 17 0) c w k) := by
  have hI : Inv T C (sS σ 17 0) := inv_sS ⟨by decide, by decide⟩ h.2.2.1
  have h4 : e_X0_checkCpu T C σ c = 0 ∧ e_X0_checkWeight w = 0 ∧ σ.2.2 14 < 16 := by
    unfold e_X0_createTask at he
    by_cases c0 : e_X0_checkCpu T C σ c = 0
    · rw [if_pos c0] at he
      by_cases c1 : e_X0_checkWeight w = 0
      · rw [if_pos c1] at he
        by_cases c2 : e_X0_checkCookie k = 0
        · rw [if_pos c2] at he
          by_cases c3 : σ.2.2 14 < 16
          · exact ⟨c0, c1, c3⟩
          · rw [if_neg c3] at he; exact absurd he (by decide)
        · rw [if_neg c2] at he; exact absurd he (by decide)
      · rw [if_neg c1] at he; exact absurd he (by decide)
    · rw [if_neg c0] at he; exact absurd he (by decide)
  obtain ⟨c0, c1, c3⟩ := h4
  refine ⟨T + 1, C, newL0 h.2.2.1 h.1 c3, h.2.1, newInv hI h.1 (inC0 h.2.2.1 h.2.1 c0) (inW0 c1) rfl rfl rfl rfl, h.2.2.2.1, ?_⟩
  intro j
  obtain ⟨a, b, h1, h2, h3⟩ := h.2.2.2.2 j
  by_cases hj : j = ix (σ.2.2 14)
  · refine ⟨0, 0, ?_, ?_, by omega⟩
    · show upd (σ.1 5) (ix (σ.2.2 14)) 0 j = nI 0
      rw [hj, upd_at]; rfl
    · show upd (σ.1 6) (ix (σ.2.2 14)) 0 j = nI 0
      rw [hj, upd_at]; rfl
  · refine ⟨a, b, ?_, ?_, by omega⟩
    · show upd (σ.1 5) (ix (σ.2.2 14)) 0 j = nI a
      rw [upd_of _ _ _ _ hj]; exact h1
    · show upd (σ.1 6) (ix (σ.2.2 14)) 0 j = nI b
      rw [upd_of _ _ _ _ hj]; exact h2
end PL
