/-! positions in a queue: counting by a strict order -/
def cnt (p : Nat → Bool) : Nat → Nat
  | 0 => 0
  | n + 1 => cnt p n + (if p n = true then 1 else 0)
theorem cnt_mono {p p' : Nat → Bool} : ∀ n, (∀ u, u < n → p u = true → p' u = true) → cnt p n ≤ cnt p' n := by
  intro n
  induction n with
  | zero => intro _; exact Nat.le_refl _
  | succ n ih =>
    intro h
    have h1 := ih (fun u hu => h u (by omega))
    show cnt p n + _ ≤ cnt p' n + _
    by_cases hp : p n = true
    · rw [if_pos hp, if_pos (h n (by omega) hp)]; omega
    · rw [if_neg hp]; omega
theorem cnt_lt {p p' : Nat → Bool} : ∀ n, (∀ u, u < n → p u = true → p' u = true) → ∀ i, i < n → p' i = true → ¬ p i = true → cnt p n + 1 ≤ cnt p' n := by
  intro n
  induction n with
  | zero => intro _ i hi; omega
  | succ n ih =>
    intro h i hi h1 h2
    show cnt p n + _ + 1 ≤ cnt p' n + _
    by_cases hin : i = n
    · subst hin
      rw [if_neg h2, if_pos h1]
      have := cnt_mono i (fun u hu => h u (by omega))
      omega
    · have h3 := ih (fun u hu => h u (by omega)) i (by omega) h1 h2
      by_cases hp : p n = true
      · rw [if_pos hp, if_pos (h n (by omega) hp)]; omega
      · rw [if_neg hp]; omega
theorem pos_all (q : Nat → Bool) (b : Nat → Nat → Bool) (tr : ∀ u v w, b u v = true → b v w = true → b u w = true) (tot : ∀ u v, u ≠ v → b u v = true ∨ b v u = true) (as : ∀ u v, b u v = true → ¬ b v u = true) : ∀ n k, k < cnt q n → ∃ i, i < n ∧ q i = true ∧ cnt (fun u => q u && b u i) n = k := by
  intro n
  induction n with
  | zero => intro k hk; exact absurd hk (Nat.not_lt_zero k)
  | succ n ih =>
    intro k hk
    by_cases hq : q n = true
    · have hk : k < cnt q n + 1 := by
        have : cnt q (n + 1) = cnt q n + 1 := by show cnt q n + _ = _; rw [if_pos hq]
        omega
      have hnn : ¬ b n n = true := fun h => as n n h h
      have self : cnt (fun u => q u && b u n) (n + 1) = cnt (fun u => q u && b u n) n := by
        show cnt _ n + (if (q n && b n n) = true then 1 else 0) = _
        rw [if_neg (by simp [hnn])]; omega
      have step : ∀ i, cnt (fun u => q u && b u i) (n + 1) = cnt (fun u => q u && b u i) n + (if b n i = true then 1 else 0) := by
        intro i
        show cnt _ n + (if (q n && b n i) = true then 1 else 0) = _
        rw [hq]
        simp
      by_cases h1 : k = cnt (fun u => q u && b u n) n
      · exact ⟨n, by omega, hq, by rw [self]; exact h1.symm⟩
      · by_cases h2 : k < cnt (fun u => q u && b u n) n
        · have hle : cnt (fun u => q u && b u n) n ≤ cnt q n := cnt_mono n (fun u _ h => by simp at h; exact h.1)
          obtain ⟨i, hi, hqi, hc⟩ := ih k (by omega)
          refine ⟨i, by omega, hqi, ?_⟩
          rw [step, hc]
          by_cases hb : b n i = true
          · exfalso
            have := cnt_mono (p := fun u => q u && b u n) (p' := fun u => q u && b u i) n (fun u _ h => by
              simp at h ⊢
              exact ⟨h.1, tr u n i h.2 hb⟩)
            omega
          · rw [if_neg hb]; omega
        · obtain ⟨i, hi, hqi, hc⟩ := ih (k - 1) (by omega)
          refine ⟨i, by omega, hqi, ?_⟩
          rw [step, hc]
          by_cases hb : b n i = true
          · rw [if_pos hb]; omega
          · exfalso
            have hb2 : b i n = true := (tot i n (by omega)).resolve_right hb
            have := cnt_lt (p := fun u => q u && b u i) (p' := fun u => q u && b u n) n (fun u _ h => by
              simp at h ⊢
              exact ⟨h.1, tr u i n h.2 hb2⟩) i hi (by simp [hqi, hb2]) (by simp; intro _; exact Bool.eq_false_iff.mpr (fun h => as i i h h))
            omega
    · have hk : k < cnt q n := by
        have : cnt q (n + 1) = cnt q n := by show cnt q n + _ = _; rw [if_neg hq]; omega
        omega
      obtain ⟨i, hi, hqi, hc⟩ := ih k hk
      refine ⟨i, by omega, hqi, ?_⟩
      show cnt _ n + (if (q n && b n i) = true then 1 else 0) = _
      rw [if_neg (by simp [hq]), hc]; omega
theorem lp_last {α : Type} (f : Nat → α → α) : ∀ n i a, lp f (n + 1) i a = f (i + n) (lp f n i a) := by
  intro n
  induction n with
  | zero => intro i a; rfl
  | succ n ih =>
    intro i a
    show lp f (n + 1) (i + 1) (f i a) = f (i + (n + 1)) (lp f n (i + 1) (f i a))
    rw [ih, show i + 1 + n = i + (n + 1) by omega]
theorem lp_cnt {f : Nat → Int32 → Int32} {p : Nat → Bool} {N : Nat} (h : ∀ i z, i < N → f i z = if p i = true then z + 1 else z) : ∀ n, n ≤ N → lp f n 0 0 = nI (cnt p n) := by
  intro n
  induction n with
  | zero => intro _; rfl
  | succ n ih =>
    intro hn
    rw [lp_last, ih (by omega), Nat.zero_add, h n _ (by omega)]
    show _ = nI (cnt p n + _)
    by_cases hp : p n = true
    · rw [if_pos hp, if_pos hp, nI_1]
    · rw [if_neg hp, if_neg hp]; rfl
theorem cnt_le (p : Nat → Bool) : ∀ n, cnt p n ≤ n := by
  intro n
  induction n with
  | zero => exact Nat.le_refl _
  | succ n ih =>
    show cnt p n + _ ≤ n + 1
    split <;> omega
theorem fnd_no {P : Nat → Int32} {d : Int32} : ∀ n i, (∀ k, i ≤ k → k < i + n → ¬ P k = 1) → fnd P n i d = d := by
  intro n
  induction n with
  | zero => intro i _; rfl
  | succ n ih =>
    intro i h
    show (if P i = 1 then nI i else fnd P n (i + 1) d) = d
    rw [if_neg (h i (Nat.le_refl _) (by omega))]
    exact ih (i + 1) (fun k h1 h2 => h k (by omega) (by omega))
theorem fnd_yes {P : Nat → Int32} {d : Int32} : ∀ n i, (∃ k, i ≤ k ∧ k < i + n ∧ P k = 1) → ∃ k, i ≤ k ∧ k < i + n ∧ P k = 1 ∧ ∀ d', fnd P n i d' = nI k := by
  intro n
  induction n with
  | zero => intro i ⟨k, h1, h2, _⟩; omega
  | succ n ih =>
    intro i ⟨k, h1, h2, h3⟩
    by_cases hp : P i = 1
    · exact ⟨i, Nat.le_refl _, by omega, hp, fun d' => by show (if P i = 1 then nI i else _) = _; rw [if_pos hp]⟩
    · obtain ⟨k', a1, a2, a3, a4⟩ := ih (i + 1) ⟨k, by
        rcases Nat.eq_or_lt_of_le h1 with q | q
        · rw [q] at hp; exact absurd h3 hp
        · exact q, by omega, h3⟩
      exact ⟨k', by omega, by omega, a3, fun d' => by
        show (if P i = 1 then nI i else fnd P n (i + 1) d') = _
        rw [if_neg hp]
        exact a4 d'⟩
theorem fnd_ext {P P' : Nat → Int32} {d : Int32} {N : Nat} (h : ∀ k, k < N → P k = P' k) : ∀ n i, i + n ≤ N → fnd P n i d = fnd P' n i d := by
  intro n
  induction n with
  | zero => intro i _; rfl
  | succ n ih =>
    intro i hi
    show (if P i = 1 then nI i else fnd P n (i + 1) d) = (if P' i = 1 then nI i else fnd P' n (i + 1) d)
    rw [h i (by omega), ih (i + 1) (by omega)]
/-- who is in the queue, who comes before whom -/
def qb (T C : Nat) (σ : St) (c : Int32) (i : Nat) : Bool := decide (¬ f_X0_isQueued T C σ (nI i) c = 0)
def bb (T C : Nat) (σ : St) (u i : Nat) : Bool := decide ((f_X0_relativeTime T C σ (nI u)).toInt < (f_X0_relativeTime T C σ (nI i)).toInt ∨ ((f_X0_relativeTime T C σ (nI u)).toInt = (f_X0_relativeTime T C σ (nI i)).toInt ∧ u < i))
theorem cb_bb (T C : Nat) (σ : St) {u i : Nat} (hu : u < 16) (hi : i < 16) : (f_X0_comesBefore T C σ (nI u) (nI i) = 0) ↔ ¬ bb T C σ u i = true := by
  unfold f_X0_comesBefore bb
  rw [if_neg (nI_ne1 hi)]
  generalize f_X0_relativeTime T C σ (nI u) = a
  generalize f_X0_relativeTime T C σ (nI i) = b
  simp only [decide_eq_true_eq]
  by_cases h1 : lg_cmp a b < 0
  · rw [if_pos h1]
    rw [lg_cmp_lt, Int64.lt_iff_toInt_lt] at h1
    exact ⟨fun q => absurd q ne10, fun q => absurd (Or.inl h1) q⟩
  · rw [if_neg h1]
    rw [lg_cmp_lt, Int64.lt_iff_toInt_lt] at h1
    by_cases h2 : lg_cmp a b = 0
    · rw [if_pos h2]
      rw [lg_cmp_eq] at h2
      subst h2
      by_cases h3 : nI i ≤ nI u
      · rw [if_pos h3]
        rw [nI_leI (by omega) (by omega)] at h3
        exact ⟨fun _ q => by omega, fun _ => rfl⟩
      · rw [if_neg h3]
        rw [nI_leI (by omega) (by omega)] at h3
        exact ⟨fun q => absurd q ne10, fun q => absurd (Or.inr ⟨rfl, by omega⟩) q⟩
    · rw [if_neg h2]
      rw [lg_cmp_eq] at h2
      have h3 : ¬ a.toInt = b.toInt := fun q => h2 (Int64.toInt_inj.mp q)
      exact ⟨fun _ q => by omega, fun _ => rfl⟩
theorem cntQ_cnt {T C : Nat} (σ : St) (c : Int32) : f_X0_countQueue T C σ c = nI (cnt (qb T C σ c) T) := by
  refine lp_cnt (N := T) (fun i z _ => ?_) T (Nat.le_refl _)
  unfold F_X0_countQueue_4 qb
  by_cases h : f_X0_isQueued T C σ (nI i) c = 0
  · rw [if_pos h, if_neg (by simp [h])]
  · rw [if_neg h, if_pos (by simp [h])]
theorem pos_cnt {T C : Nat} (hT : T ≤ 16) (σ : St) {i : Nat} (hi : i < T) : f_X0_positionOf T C σ (nI i) = nI (cnt (fun u => qb T C σ (σ.1 0 (ix (nI i))) u && bb T C σ u i) T) := by
  refine lp_cnt (N := T) (fun u z hu => ?_) T (Nat.le_refl _)
  unfold F_X0_positionOf_4
  by_cases h : f_X0_isQueued T C σ (nI u) (σ.1 0 (ix (nI i))) = 0
  · rw [if_pos h, if_neg (by simp [qb, h])]
  · rw [if_neg h]
    by_cases h2 : f_X0_comesBefore T C σ (nI u) (nI i) = 0
    · rw [if_pos h2]
      rw [cb_bb T C σ (by omega) (by omega)] at h2
      rw [if_neg (by simp [h2])]
    · rw [if_neg h2]
      rw [cb_bb T C σ (by omega) (by omega)] at h2
      rw [if_pos (by simp [qb, h, Classical.not_not.mp h2])]
theorem isq_cpu {T C : Nat} {σ : St} {t c : Int32} (h : ¬ f_X0_isQueued T C σ t c = 0) : σ.1 0 (ix t) = c := by
  unfold f_X0_isQueued at h
  by_cases h1 : σ.1 0 (ix t) = c
  · exact h1
  · rw [if_neg h1] at h; exact absurd rfl h
theorem bb_tr (T C : Nat) (σ : St) : ∀ u v w, bb T C σ u v = true → bb T C σ v w = true → bb T C σ u w = true := by
  intro u v w h1 h2
  simp only [bb, decide_eq_true_eq] at h1 h2 ⊢
  omega
theorem bb_tot (T C : Nat) (σ : St) : ∀ u v, u ≠ v → bb T C σ u v = true ∨ bb T C σ v u = true := by
  intro u v h
  simp only [bb, decide_eq_true_eq]
  omega
theorem bb_as (T C : Nat) (σ : St) : ∀ u v, bb T C σ u v = true → ¬ bb T C σ v u = true := by
  intro u v h
  simp only [bb, decide_eq_true_eq] at h ⊢
  omega
/-- P of the class -/
theorem P0_iff {T C : Nat} (hT : T ≤ 16) (σ : St) (c x : Int32) {i : Nat} (hi : i < T) : P_X0_queuedTask_7 T C σ c x i = 1 ↔ qb T C σ c i = true ∧ nI (cnt (fun u => qb T C σ c u && bb T C σ u i) T) = x := by
  unfold P_X0_queuedTask_7
  by_cases h : f_X0_isQueued T C σ (nI i) c = 0
  · rw [if_pos h]
    simp [qb, h]
  · rw [if_neg h, pos_cnt hT σ hi, isq_cpu h]
    have hq : qb T C σ c i = true := by simp [qb, h]
    by_cases h2 : nI (cnt (fun u => qb T C σ c u && bb T C σ u i) T) = x
    · rw [if_pos h2]; exact ⟨fun _ => ⟨hq, h2⟩, fun _ => rfl⟩
    · rw [if_neg h2]; exact ⟨fun q => absurd q (by decide), fun q => absurd q.2 h2⟩
theorem found_iff {T C : Nat} (hT : T ≤ 16) (σ : St) (c x : Int32) : (∃ k, 0 ≤ k ∧ k < 0 + T ∧ P_X0_queuedTask_7 T C σ c x k = 1) ↔ out x (cnt (qb T C σ c) T) = 0 := by
  have hN : cnt (qb T C σ c) T ≤ 16 := Nat.le_trans (cnt_le _ T) hT
  constructor
  · intro ⟨k, _, hk, hp⟩
    obtain ⟨h1, h2⟩ := (P0_iff hT σ c x (by omega)).mp hp
    rw [← h2]
    refine out_nI ?_ (by omega)
    exact cnt_lt T (fun u _ h => by simp at h; exact h.1) k (by omega) h1 (by simp; intro _; exact Bool.eq_false_iff.mpr (fun h => bb_as T C σ k k h h))
  · intro h
    obtain ⟨j, hj, rfl⟩ := out_in (by omega) h
    obtain ⟨i, hi, hq, hc⟩ := pos_all (qb T C σ c) (bb T C σ) (bb_tr T C σ) (bb_tot T C σ) (bb_as T C σ) T j hj
    exact ⟨i, Nat.zero_le _, by omega, (P0_iff hT σ c (nI j) hi).mpr ⟨hq, by rw [hc]⟩⟩
/-- P of the reference, at the picture with the fault written -/
theorem P1_eq {T C : Nat} (hT : T ≤ 16) (σ τ : St) (c x : Int32) (hg : g_X1_isRefused T C σ (f_X1_noCpu T C σ c) (if (f_X1_noCpu T C σ c) = 0 then (if (f_X1_in (Int32.toInt64 x) 0 (Int32.toInt64 ((f_X1_queued T C σ c) - 1))) = 0 then 1 else 0) else 0) = τ) {i : Nat} (hi : i < T) : P_X1_queuedTask_45 T C σ c x i = P_X0_queuedTask_7 T C τ c x i := by
  have hF : ¬ f_X0_isQueued T C τ (nI i) c = 0 → lp (F_X1_queuedTask_60 T C σ c x i) T 0 0 = f_X0_positionOf T C τ (nI i) := by
    intro hq0
    rw [pos_cnt hT τ hi, isq_cpu hq0]
    refine lp_cnt (N := T) (fun u z hu => ?_) T (Nat.le_refl _)
    unfold F_X1_queuedTask_60
    rw [hg, run_eq, ahd_eq]
    have hcb := cb_bb T C τ (u := u) (i := i) (by omega) (by omega)
    by_cases hui : u = i
    · subst hui
      rw [if_pos rfl, Int32.add_zero, if_neg (by simp; intro _; exact Bool.eq_false_iff.mpr (fun h => bb_as T C τ u u h h))]
    · rw [if_neg (fun q => hui ((nI_eq (by omega) (by omega)).mp q))]
      unfold qb f_X0_isQueued
      by_cases h1 : f_X0_isRunnable T C τ (nI u) = 0
      · simp [h1]
      · by_cases h2 : τ.1 0 (ix (nI u)) = c
        · by_cases h3 : f_X0_comesBefore T C τ (nI u) (nI i) = 0
          · have h4 := hcb.mp h3
            simp [h1, h2, h3, h4]
          · have h4 : bb T C τ u i = true := Classical.not_not.mp (fun q => h3 (hcb.mpr q))
            simp [h1, h2, h3, h4]
        · simp [h1, h2]
  unfold P_X1_queuedTask_45 P_X0_queuedTask_7
  rw [hg, run_eq]
  by_cases hq0 : f_X0_isQueued T C τ (nI i) c = 0
  · rw [if_pos hq0]
    unfold f_X0_isQueued at hq0
    by_cases h1 : f_X0_isRunnable T C τ (nI i) = 0
    · rw [if_pos h1]
    · rw [if_neg h1]
      by_cases h2 : τ.1 0 (ix (nI i)) = c
      · rw [if_pos h2, if_neg h1] at hq0; exact absurd hq0 ne10
      · rw [if_neg h2]
  · rw [if_neg hq0, hF hq0]
    unfold f_X0_isQueued at hq0
    by_cases h2 : τ.1 0 (ix (nI i)) = c
    · rw [if_pos h2] at hq0 ⊢
      by_cases h1 : f_X0_isRunnable T C τ (nI i) = 0
      · rw [if_pos h1] at hq0; exact absurd rfl hq0
      · rw [if_neg h1]
    · rw [if_neg h2] at hq0; exact absurd rfl hq0
theorem q_queuedTask {T C : Nat} {σ : St} (hT : T ≤ 16) (hC : 1 ≤ C ∧ C ≤ 4) (hI : Inv T C σ) (c x : Int32) : Same (e_X0_queuedTask T C σ c x) σ (g_X1_queuedTask T C σ c x) (f_X1_queuedTask T C σ c x) (sS σ 17 0) (f_X0_queuedTask T C (sS σ 17 0) c x) := by
  have hN : cnt (qb T C σ c) T ≤ 16 := Nat.le_trans (cnt_le _ T) hT
  have hin : (if (f_X1_in (Int32.toInt64 x) 0 (Int32.toInt64 ((f_X1_queued T C σ c) - 1))) = 0 then (1 : Int32) else 0) = out x (cnt (qb T C σ c) T) := out_gen x _ _ (by omega) (by rw [cntQ_eq, cntQ_cnt])
  have hf : (fnd (P_X0_queuedTask_7 T C σ c x) T 0 (-1) = (-1)) ↔ ¬ out x (cnt (qb T C σ c) T) = 0 := by
    rw [← found_iff hT]
    constructor
    · intro h q
      obtain ⟨k, _, k2, _, k4⟩ := fnd_yes (d := -1) T 0 q
      rw [k4] at h
      exact nI_ne1 (by omega) h
    · intro h
      exact fnd_no T 0 (fun k h1 h2 h3 => h ⟨k, h1, h2, h3⟩)
  have hr : rc (f_X1_noCpu T C σ c) (if (f_X1_noCpu T C σ c) = 0 then (if (f_X1_in (Int32.toInt64 x) 0 (Int32.toInt64 ((f_X1_queued T C σ c) - 1))) = 0 then 1 else 0) else 0) = e_X0_queuedTask T C σ c x := by
    rw [hin]
    unfold rc e_X0_queuedTask
    rw [noCpu_eq hI hC, eCpu_eq hI]
    by_cases c0 : out c (2 * C) = 0
    · by_cases c1 : out x (cnt (qb T C σ c) T) = 0
      · have c2 : ¬ fnd (P_X0_queuedTask_7 T C σ c x) T 0 (-1) = (-1) := fun q => hf.mp q c1
        simp [c0, c1, c2]
      · have c2 : fnd (P_X0_queuedTask_7 T C σ c x) T 0 (-1) = (-1) := hf.mpr c1
        simp [c0, c1, c2]
    · simp [c0]
  obtain ⟨h1, h2⟩ := sm (T := T) (C := C) (σ := σ) hr
  refine ⟨fun h0 => ?_, fun _ => h2⟩
  have h3 : g_X1_isRefused T C σ (f_X1_noCpu T C σ c) (if (f_X1_noCpu T C σ c) = 0 then (if (f_X1_in (Int32.toInt64 x) 0 (Int32.toInt64 ((f_X1_queued T C σ c) - 1))) = 0 then 1 else 0) else 0) = sS σ 17 0 := by rw [h2, h0]
  refine ⟨h3, ?_, rfl⟩
  unfold f_X1_queuedTask f_X0_queuedTask
  rw [if_pos (h1.mpr h0)]
  rw [fnd_ext (N := T) (fun k hk => P1_eq hT σ (sS σ 17 0) c x h3 hk) T 0 (by omega)]
  have hex : ∃ k, 0 ≤ k ∧ k < 0 + T ∧ P_X0_queuedTask_7 T C (sS σ 17 0) c x k = 1 := by
    have h5 : out x (cnt (qb T C σ c) T) = 0 := by
      by_cases q : out x (cnt (qb T C σ c) T) = 0
      · exact q
      · exfalso
        have c2 := hf.mpr q
        unfold e_X0_queuedTask at h0
        rw [if_pos c2] at h0
        by_cases c0 : e_X0_checkCpu T C σ c = 0
        · rw [if_pos c0] at h0; exact absurd h0 (by decide)
        · rw [if_neg c0] at h0; exact absurd h0 ne10
    exact (found_iff hT σ c x).mpr h5
  obtain ⟨k, _, _, _, k4⟩ := fnd_yes (d := 0) T 0 hex
  rw [k4, k4]
