/-! a pick: both sides keep one picture but for the states, which the class sets while the pick goes on and the reference at its end -/
def s3 (u : St) (r : Nat → Int32) : St := (fun b => if b = 3 then r else u.1 b, u.2.1, u.2.2)
def rn (x : Int32) : Prop := x = 0 ∨ x = 1
/-- the states at a pick's end, as far as the CPUs of P have been served -/
noncomputable def fin3 (T : Nat) (j : Nat) (P : Int32 → Prop) (u : St) (i : Nat) : Int32 :=
  haveI := Classical.propDecidable (i < T ∧ rn (u.1 3 i) ∧ (u.1 0 i) / 2 = nI j)
  haveI := Classical.propDecidable (P (u.1 0 i) ∧ u.1 8 (ix (u.1 0 i)) = nI i)
  if i < T ∧ rn (u.1 3 i) ∧ (u.1 0 i) / 2 = nI j then (if P (u.1 0 i) ∧ u.1 8 (ix (u.1 0 i)) = nI i then 1 else 0) else u.1 3 i
theorem fin_y {T j : Nat} {P : Int32 → Prop} {u : St} {i : Nat} (h : i < T ∧ rn (u.1 3 i) ∧ (u.1 0 i) / 2 = nI j) (h2 : P (u.1 0 i) ∧ u.1 8 (ix (u.1 0 i)) = nI i) : fin3 T j P u i = 1 := by
  unfold fin3
  rw [if_pos h, if_pos h2]
theorem fin_n {T j : Nat} {P : Int32 → Prop} {u : St} {i : Nat} (h : i < T ∧ rn (u.1 3 i) ∧ (u.1 0 i) / 2 = nI j) (h2 : ¬ (P (u.1 0 i) ∧ u.1 8 (ix (u.1 0 i)) = nI i)) : fin3 T j P u i = 0 := by
  unfold fin3
  rw [if_pos h, if_neg h2]
theorem fin_o {T j : Nat} {P : Int32 → Prop} {u : St} {i : Nat} (h : ¬ (i < T ∧ rn (u.1 3 i) ∧ (u.1 0 i) / 2 = nI j)) : fin3 T j P u i = u.1 3 i := by
  unfold fin3
  rw [if_neg h]
theorem rn_f (T C : Nat) (σ : St) (t : Int32) : (f_X0_isRunnable T C σ t = 0) ↔ ¬ rn (σ.1 3 (ix t)) := by
  unfold f_X0_isRunnable rn
  by_cases h1 : σ.1 3 (ix t) = 0
  · rw [if_pos h1]; simp [h1]
  · rw [if_neg h1]
    by_cases h2 : σ.1 3 (ix t) = 1
    · rw [if_pos h2]; simp [h2]
    · rw [if_neg h2]; simp [h1, h2]
theorem fin_rn {T j : Nat} {P : Int32 → Prop} {u : St} (i : Nat) : rn (fin3 T j P u i) ↔ rn (u.1 3 i) := by
  by_cases h : i < T ∧ rn (u.1 3 i) ∧ (u.1 0 i) / 2 = nI j
  · by_cases h2 : P (u.1 0 i) ∧ u.1 8 (ix (u.1 0 i)) = nI i
    · rw [fin_y h h2]; exact ⟨fun _ => h.2.1, fun _ => Or.inr rfl⟩
    · rw [fin_n h h2]; exact ⟨fun _ => h.2.1, fun _ => Or.inl rfl⟩
  · rw [fin_o h]
/-- the class's release of a core's tasks -/
theorem rel_fin {T C : Nat} (hT : T ≤ 16) (σ : St) (j : Nat) : g_X0_releaseTasks T C σ (nI j) = s3 σ (fin3 T j (fun _ => False) σ) := by
  have key : ∀ n i (z : St), i + n = T → z = s3 σ (fun k => if k < i then fin3 T j (fun _ => False) σ k else σ.1 3 k) → lp (F_X0_releaseTasks_2 T C (nI j)) n i z = s3 σ (fin3 T j (fun _ => False) σ) := by
    intro n
    induction n with
    | zero =>
      intro i z hi hz
      show z = _
      rw [hz]
      have : (fun k => if k < i then fin3 T j (fun _ => False) σ k else σ.1 3 k) = fin3 T j (fun _ => False) σ := by
        funext k
        by_cases hk : k < i
        · rw [if_pos hk]
        · rw [if_neg hk, fin_o (by omega)]
      rw [this]
    | succ n ih =>
      intro i z hi hz
      show lp _ n (i + 1) (F_X0_releaseTasks_2 T C (nI j) i z) = _
      refine ih (i + 1) _ (by omega) ?_
      have e : ix (nI i) = i := ixn (by omega)
      have z3 : z.1 3 i = σ.1 3 i := by
        rw [hz]
        show (if i < i then _ else _) = _
        rw [if_neg (Nat.lt_irrefl i)]
      have z0 : z.1 0 = σ.1 0 := by rw [hz]; rfl
      unfold F_X0_releaseTasks_2 f_X0_isOnCore f_X0_coreOfCpu
      rw [e, z3, z0]
      have same : z.1 3 i = fin3 T j (fun _ => False) σ i → z = s3 σ (fun k => if k < i + 1 then fin3 T j (fun _ => False) σ k else σ.1 3 k) := by
        intro h
        rw [hz]
        congr 1
        funext k
        by_cases hk : k < i
        · rw [if_pos hk, if_pos (by omega)]
        · by_cases hk2 : k = i
          · rw [if_neg hk, if_pos (by omega), hk2, ← h, z3]
          · rw [if_neg hk, if_neg (by omega)]
      by_cases h1 : σ.1 3 i = 1
      · rw [if_pos h1]
        by_cases h2 : (σ.1 0 i) / 2 = nI j
        · simp only [if_pos h2, if_neg ne10]
          have hf : fin3 T j (fun _ => False) σ i = 0 := fin_n ⟨by omega, Or.inr h1, h2⟩ (fun q => q.1)
          rw [hz]
          refine St_ext (fun b k => ?_) (fun _ _ => rfl) (fun _ => rfl)
          rw [sI_at]
          show _ = (if b = 3 then _ else σ.1 b) k
          by_cases hb : b = 3
          · subst hb
            rw [if_pos rfl]
            by_cases hk : k = i
            · rw [if_pos ⟨rfl, hk⟩, hk, if_pos (by omega), hf]
            · rw [if_neg (fun q => hk q.2)]
              show (if k < i then _ else _) = _
              by_cases hk2 : k < i
              · rw [if_pos hk2, if_pos (by omega)]
              · rw [if_neg hk2, if_neg (by omega)]
          · rw [if_neg (fun q => hb q.1), if_neg hb]
            show (if b = 3 then _ else σ.1 b) k = _
            rw [if_neg hb]
        · simp only [if_neg h2, if_true]
          exact same (by rw [z3, fin_o (fun q => h2 q.2.2)])
      · rw [if_neg h1]
        refine same ?_
        rw [z3]
        by_cases h : i < T ∧ rn (σ.1 3 i) ∧ (σ.1 0 i) / 2 = nI j
        · rw [fin_n h (fun q => q.1)]
          exact (h.2.1.resolve_right h1)
        · rw [fin_o h]
  exact key T 0 σ (Nat.zero_add T) (St_ext (fun b k => by show _ = (if b = 3 then _ else σ.1 b) k; by_cases hb : b = 3 <;> simp [hb]) (fun _ _ => rfl) (fun _ => rfl))
/-- the reference's last loop of a pick -/
theorem end_fin {T C : Nat} (hT : T ≤ 16) (u : St) (j : Nat) : lp (F_X1_picks_150 T C j) T 0 u = s3 u (fin3 T j (fun _ => True) u) := by
  have key : ∀ n i (z : St), i + n = T → z = s3 u (fun k => if k < i then fin3 T j (fun _ => True) u k else u.1 3 k) → lp (F_X1_picks_150 T C j) n i z = s3 u (fin3 T j (fun _ => True) u) := by
    intro n
    induction n with
    | zero =>
      intro i z hi hz
      show z = _
      rw [hz]
      have : (fun k => if k < i then fin3 T j (fun _ => True) u k else u.1 3 k) = fin3 T j (fun _ => True) u := by
        funext k
        by_cases hk : k < i
        · rw [if_pos hk]
        · rw [if_neg hk, fin_o (by omega)]
      rw [this]
    | succ n ih =>
      intro i z hi hz
      show lp _ n (i + 1) (F_X1_picks_150 T C j i z) = _
      refine ih (i + 1) _ (by omega) ?_
      have e : ix (nI i) = i := ixn (by omega)
      have z3 : z.1 3 i = u.1 3 i := by
        rw [hz]
        show (if i < i then _ else _) = _
        rw [if_neg (Nat.lt_irrefl i)]
      have z0 : z.1 0 = u.1 0 := by rw [hz]; rfl
      have z8 : z.1 8 = u.1 8 := by rw [hz]; rfl
      have same : z.1 3 i = fin3 T j (fun _ => True) u i → z = s3 u (fun k => if k < i + 1 then fin3 T j (fun _ => True) u k else u.1 3 k) := by
        intro h
        rw [hz]
        congr 1
        funext k
        by_cases hk : k < i
        · rw [if_pos hk, if_pos (by omega)]
        · by_cases hk2 : k = i
          · rw [if_neg hk, if_pos (by omega), hk2, ← h, z3]
          · rw [if_neg hk, if_neg (by omega)]
      unfold F_X1_picks_150
      rw [run_eq]
      by_cases h1 : f_X0_isRunnable T C z (nI i) = 0
      · rw [if_pos h1]
        rw [rn_f, e, z3] at h1
        exact same (by rw [z3, fin_o (fun q => h1 q.2.1)])
      · rw [if_neg h1]
        rw [rn_f, e, z3] at h1
        have h1 : rn (u.1 3 i) := Classical.not_not.mp h1
        rw [e, z0]
        by_cases h2 : (u.1 0 i) / 2 = nI j
        · rw [if_pos h2, z8]
          have hf : fin3 T j (fun _ => True) u i = (if u.1 8 (ix (u.1 0 i)) = nI i then 1 else 0) := by
            by_cases h3 : u.1 8 (ix (u.1 0 i)) = nI i
            · rw [fin_y ⟨by omega, h1, h2⟩ ⟨trivial, h3⟩, if_pos h3]
            · rw [fin_n ⟨by omega, h1, h2⟩ (fun q => h3 q.2), if_neg h3]
          rw [← hf, hz]
          refine St_ext (fun b k => ?_) (fun _ _ => rfl) (fun _ => rfl)
          rw [sI_at]
          show _ = (if b = 3 then _ else u.1 b) k
          by_cases hb : b = 3
          · subst hb
            rw [if_pos rfl]
            by_cases hk : k = i
            · rw [if_pos ⟨rfl, hk⟩, hk, if_pos (by omega)]
            · rw [if_neg (fun q => hk q.2)]
              show (if k < i then _ else _) = _
              by_cases hk2 : k < i
              · rw [if_pos hk2, if_pos (by omega)]
              · rw [if_neg hk2, if_neg (by omega)]
          · rw [if_neg (fun q => hb q.1), if_neg hb]
            show (if b = 3 then _ else u.1 b) k = _
            rw [if_neg hb]
        · rw [if_neg h2]
          exact same (by rw [z3, fin_o (fun q => h2 q.2.2)])
  exact key T 0 u (Nat.zero_add T) (St_ext (fun b k => by show _ = (if b = 3 then _ else u.1 b) k; by_cases hb : b = 3 <;> simp [hb]) (fun _ _ => rfl) (fun _ => rfl))
