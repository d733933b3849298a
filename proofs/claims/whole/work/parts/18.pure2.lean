/-! class and reference are one, on pictures: loops, writes, what is looked for -/
theorem lp_ext {α : Type} {N : Nat} {f g : Nat → α → α} (h : ∀ i a, i < N → f i a = g i a) : ∀ n i a, i + n ≤ N → lp f n i a = lp g n i a := by
  intro n
  induction n with
  | zero => intro i a _; rfl
  | succ n ih =>
    intro i a hi
    show lp f n (i + 1) (f i a) = lp g n (i + 1) (g i a)
    rw [h i a (by omega)]
    exact ih (i + 1) _ (by omega)
theorem lp_inv {α : Type} {N : Nat} {f : Nat → α → α} (P : Nat → α → Prop) (h : ∀ i a, i < N → P i a → P (i + 1) (f i a)) : ∀ n i a, i + n ≤ N → P i a → P (i + n) (lp f n i a) := by
  intro n
  induction n with
  | zero => intro i a _ hp; exact hp
  | succ n ih =>
    intro i a hi hp
    have h1 := ih (i + 1) (f i a) (by omega) (h i a (by omega) hp)
    rw [show i + (n + 1) = i + 1 + n by omega]
    exact h1
theorem lp_extI {α : Type} {N : Nat} {f g : Nat → α → α} (P : Nat → α → Prop) (h : ∀ i a, i < N → P i a → f i a = g i a ∧ P (i + 1) (g i a)) : ∀ n i a, i + n ≤ N → P i a → lp f n i a = lp g n i a := by
  intro n
  induction n with
  | zero => intro i a _ _; rfl
  | succ n ih =>
    intro i a hi hp
    show lp f n (i + 1) (f i a) = lp g n (i + 1) (g i a)
    have h1 := h i a (by omega) hp
    rw [h1.1]
    exact ih (i + 1) _ (by omega) h1.2
theorem lp_fuse {α : Type} {c r : Nat → α → α} (h : ∀ i j a, c i (r j a) = r j (c i a)) : ∀ n i a, lp (fun i a => r i (c i a)) n i a = lp r n i (lp c n i a) := by
  have hc : ∀ n i j a, lp c n i (r j a) = r j (lp c n i a) := by
    intro n
    induction n with
    | zero => intro i j a; rfl
    | succ n ih =>
      intro i j a
      show lp c n (i + 1) (c i (r j a)) = r j (lp c n (i + 1) (c i a))
      rw [h, ih]
  intro n
  induction n with
  | zero => intro i a; rfl
  | succ n ih =>
    intro i a
    show lp (fun i a => r i (c i a)) n (i + 1) (r i (c i a)) = lp r n (i + 1) (r i (lp c n (i + 1) (c i a)))
    rw [ih, hc]
theorem St_ext {σ τ : St} (h1 : ∀ b j, σ.1 b j = τ.1 b j) (h2 : ∀ b j, σ.2.1 b j = τ.2.1 b j) (h3 : ∀ b, σ.2.2 b = τ.2.2 b) : σ = τ := by
  obtain ⟨a, b, c⟩ := σ
  obtain ⟨a', b', c'⟩ := τ
  have e1 : a = a' := funext fun x => funext fun y => h1 x y
  have e2 : b = b' := funext fun x => funext fun y => h2 x y
  have e3 : c = c' := funext fun x => h3 x
  rw [e1, e2, e3]
theorem sI_at (σ : St) (a i : Nat) (v : Int32) (b j : Nat) : (sI σ a i v).1 b j = if b = a ∧ j = i then v else σ.1 b j := by
  show (if b = a then upd (σ.1 a) i v else σ.1 b) j = _
  by_cases h : b = a
  · rw [if_pos h]
    subst h
    show (if j = i then v else σ.1 b j) = _
    by_cases h2 : j = i
    · rw [if_pos h2, if_pos ⟨rfl, h2⟩]
    · rw [if_neg h2, if_neg (fun q => h2 q.2)]
  · rw [if_neg h, if_neg (fun q => h q.1)]
theorem sJ_at (σ : St) (a i : Nat) (v : Int64) (b j : Nat) : (sJ σ a i v).2.1 b j = if b = a ∧ j = i then v else σ.2.1 b j := by
  show (if b = a then vp_updL (σ.2.1 a) i v else σ.2.1 b) j = _
  by_cases h : b = a
  · rw [if_pos h]
    subst h
    show (if j = i then v else σ.2.1 b j) = _
    by_cases h2 : j = i
    · rw [if_pos h2, if_pos ⟨rfl, h2⟩]
    · rw [if_neg h2, if_neg (fun q => h2 q.2)]
  · rw [if_neg h, if_neg (fun q => h q.1)]
theorem sI_self (σ : St) (a i : Nat) (v : Int32) (h : v = σ.1 a i) : sI σ a i v = σ := by
  refine St_ext (fun b j => ?_) (fun _ _ => rfl) (fun _ => rfl)
  rw [sI_at]
  split
  · next q => rw [h, q.1, q.2]
  · rfl
theorem sJ_self (σ : St) (a i : Nat) (v : Int64) (h : v = σ.2.1 a i) : sJ σ a i v = σ := by
  refine St_ext (fun _ _ => rfl) (fun b j => ?_) (fun _ => rfl)
  rw [sJ_at]
  split
  · next q => rw [h, q.1, q.2]
  · rfl
theorem ixn {i : Nat} (h : i < 2 ^ 31) : ix (nI i) = i := nI_clamp h
theorem ne10 : ¬ (1 : Int32) = 0 := by decide
theorem run_eq : f_X1_isRunnable = f_X0_isRunnable := rfl
theorem rel_eq : f_X1_relative = f_X0_relativeTime := rfl
theorem ahd_eq : f_X1_isAhead = f_X0_comesBefore := rfl
theorem gto_eq : g_X1_goesTo = g_X0_moveRunnable := rfl
theorem bec_eq : g_X1_becomes = g_X0_stopTask := rfl
theorem leader_eq (T C : Nat) (σ : St) (r : Int32) : f_X1_leader T C σ r = f_X0_findLeader T C σ r := by
  refine lp_ext (N := T) (fun i z _ => ?_) T 0 (-1) (by omega)
  unfold F_X1_leader_4 F_X0_findLeader_4 f_X0_isOnCore f_X0_coreOfCpu
  rw [run_eq, ahd_eq]
  by_cases h : (σ.1 0 (ix (nI i))) / 2 = r
  · simp only [if_pos h, if_neg ne10]
  · simp only [if_neg h, if_true]
theorem own_eq (T C : Nat) (σ : St) (c k : Int32) : f_X1_firstOf T C σ c k = f_X0_findOwn T C σ c k := by
  refine lp_ext (N := T) (fun i z _ => ?_) T 0 (-1) (by omega)
  unfold F_X1_firstOf_5 F_X0_findOwn_5 f_X0_isQueued
  rw [run_eq, ahd_eq]
  by_cases h : σ.1 0 (ix (nI i)) = c
  · by_cases h2 : f_X0_isRunnable T C σ (nI i) = 0
    · simp only [if_pos h, if_pos h2, if_true]
    · simp only [if_pos h, if_neg h2, if_neg ne10]
  · by_cases h2 : f_X0_isRunnable T C σ (nI i) = 0
    · simp only [if_neg h, if_pos h2, if_true]
    · simp only [if_neg h, if_neg h2, if_true]
theorem loot_eq (T C : Nat) (σ : St) (r k : Int32) : f_X1_toSteal T C σ r k = if σ.2.2 16 = 0 then (-1) else f_X0_findLoot T C σ r k := by
  have h : lp (F_X1_toSteal_5 T C σ r k) T 0 (-1) = f_X0_findLoot T C σ r k := by
    refine lp_ext (N := T) (fun i z _ => ?_) T 0 (-1) (by omega)
    unfold F_X1_toSteal_5 F_X0_findLoot_5 f_X0_isLoot f_X0_isOnCore f_X0_coreOfCpu
    rw [ahd_eq]
    by_cases h1 : σ.1 3 (ix (nI i)) = 0
    · by_cases h2 : (σ.1 0 (ix (nI i))) / 2 = r
      · by_cases h3 : σ.1 2 (ix (nI i)) = k
        · simp only [if_pos h1, if_pos h2, if_pos h3, if_neg ne10, if_true]
        · simp only [if_pos h1, if_pos h2, if_neg h3, if_true]
      · by_cases h3 : σ.1 2 (ix (nI i)) = k
        · simp only [if_pos h1, if_neg h2, if_pos h3, if_neg ne10, if_true]
        · simp only [if_pos h1, if_neg h2, if_neg h3, if_true]
    · simp only [if_neg h1, if_true]
  unfold f_X1_toSteal
  rw [h]
theorem cntQ_eq (T C : Nat) (σ : St) (c : Int32) : f_X1_queued T C σ c = f_X0_countQueue T C σ c := by
  refine lp_ext (N := T) (fun i z _ => ?_) T 0 0 (by omega)
  unfold F_X1_queued_4 F_X0_countQueue_4 f_X0_isQueued
  rw [run_eq]
  by_cases h : σ.1 0 (ix (nI i)) = c
  · by_cases h2 : f_X0_isRunnable T C σ (nI i) = 0
    · simp only [if_pos h, if_pos h2, if_true, Int32.add_zero]
    · simp only [if_pos h, if_neg h2, if_neg ne10]
  · by_cases h2 : f_X0_isRunnable T C σ (nI i) = 0
    · simp only [if_neg h, if_pos h2, if_true, Int32.add_zero]
    · simp only [if_neg h, if_neg h2, if_true, Int32.add_zero]
/-- what a search finds: none, or a number below n of which p holds -/
theorem lp_found {f : Nat → Int32 → Int32} (p : Nat → Prop) (h : ∀ i z, f i z = z ∨ (f i z = nI i ∧ p i)) : ∀ n i z, lp f n i z = z ∨ ∃ k : Nat, i ≤ k ∧ k < i + n ∧ lp f n i z = nI k ∧ p k := by
  intro n
  induction n with
  | zero => intro i z; exact Or.inl rfl
  | succ n ih =>
    intro i z
    show lp f n (i + 1) (f i z) = z ∨ _
    rcases ih (i + 1) (f i z) with h1 | ⟨k, h1, h2, h3, h4⟩
    · rcases h i z with h2 | ⟨h2, h3⟩
      · exact Or.inl (h1.trans h2)
      · exact Or.inr ⟨i, Nat.le_refl _, by omega, h1.trans h2, h3⟩
    · exact Or.inr ⟨k, by omega, by omega, h3, h4⟩
theorem own_found (T C : Nat) (σ : St) (c k : Int32) : f_X0_findOwn T C σ c k = -1 ∨ ∃ i : Nat, i < T ∧ f_X0_findOwn T C σ c k = nI i ∧ ¬ f_X0_isRunnable T C σ (nI i) = 0 ∧ σ.1 0 (ix (nI i)) = c := by
  have key : ∀ (i : Nat) (z : Int32), F_X0_findOwn_5 T C σ c k i z = z ∨ (F_X0_findOwn_5 T C σ c k i z = nI i ∧ (¬ f_X0_isRunnable T C σ (nI i) = 0 ∧ σ.1 0 (ix (nI i)) = c)) := by
    intro i z
    unfold F_X0_findOwn_5 f_X0_isQueued
    by_cases h : σ.1 0 (ix (nI i)) = c
    · by_cases h2 : f_X0_isRunnable T C σ (nI i) = 0
      · simp only [if_pos h, if_pos h2, if_true]; exact Or.inl trivial
      · simp only [if_pos h, if_neg h2, if_neg ne10]
        split
        · split
          · exact Or.inl rfl
          · exact Or.inr ⟨rfl, h2, h⟩
        · exact Or.inl rfl
    · simp only [if_neg h, if_true]; exact Or.inl trivial
  rcases lp_found (f := F_X0_findOwn_5 T C σ c k) (fun i => ¬ f_X0_isRunnable T C σ (nI i) = 0 ∧ σ.1 0 (ix (nI i)) = c) key T 0 (-1) with h | ⟨i, _, h2, h3, h4⟩
  · exact Or.inl h
  · exact Or.inr ⟨i, by omega, h3, h4⟩
theorem loot_found (T C : Nat) (σ : St) (r k : Int32) : f_X0_findLoot T C σ r k = -1 ∨ ∃ i : Nat, i < T ∧ f_X0_findLoot T C σ r k = nI i ∧ σ.1 3 (ix (nI i)) = 0 ∧ ¬ (σ.1 0 (ix (nI i))) / 2 = r := by
  have key : ∀ (i : Nat) (z : Int32), F_X0_findLoot_5 T C σ r k i z = z ∨ (F_X0_findLoot_5 T C σ r k i z = nI i ∧ (σ.1 3 (ix (nI i)) = 0 ∧ ¬ (σ.1 0 (ix (nI i))) / 2 = r)) := by
    intro i z
    unfold F_X0_findLoot_5 f_X0_isLoot f_X0_isOnCore f_X0_coreOfCpu
    by_cases h1 : σ.1 3 (ix (nI i)) = 0
    · by_cases h2 : (σ.1 0 (ix (nI i))) / 2 = r
      · by_cases h3 : σ.1 2 (ix (nI i)) = k
        · simp only [if_pos h1, if_pos h2, if_pos h3, if_neg ne10, if_true]; exact Or.inl trivial
        · simp only [if_pos h1, if_neg h3, if_true]; exact Or.inl trivial
      · by_cases h3 : σ.1 2 (ix (nI i)) = k
        · simp only [if_pos h1, if_neg h2, if_pos h3, if_neg ne10, if_true]
          split
          · exact Or.inl rfl
          · exact Or.inr ⟨rfl, h1, h2⟩
        · simp only [if_pos h1, if_neg h3, if_true]; exact Or.inl trivial
    · simp only [if_neg h1, if_true]; exact Or.inl trivial
  rcases lp_found (f := F_X0_findLoot_5 T C σ r k) (fun i => σ.1 3 (ix (nI i)) = 0 ∧ ¬ (σ.1 0 (ix (nI i))) / 2 = r) key T 0 (-1) with h | ⟨i, _, h2, h3, h4⟩
  · exact Or.inl h
  · exact Or.inr ⟨i, by omega, h3, h4⟩
