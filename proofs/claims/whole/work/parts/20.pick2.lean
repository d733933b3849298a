theorem upd_s (f : Nat → Int32) (k : Nat) (x : Int32) : upd f k x k = x := by unfold upd; rw [if_pos rfl]
theorem upd_n (f : Nat → Int32) (k : Nat) (x : Int32) {j : Nat} (h : j ≠ k) : upd f k x j = f j := by unfold upd; rw [if_neg h]
theorem nI_ne1 {i : Nat} (h : i < 16) : ¬ nI i = -1 := by
  intro e
  have h1 := nI_pos (n := i) (by omega)
  rw [e] at h1
  exact h1 (by decide)
theorem in_ix {x y : Int32} {n : Nat} (hn : n < 2 ^ 31) (hx : vp_in x n) (hy : vp_in y n) (h : ix x = ix y) : x = y := by
  obtain ⟨a, ha, rfl⟩ := vp_in_of hx hn
  obtain ⟨b, hb, rfl⟩ := vp_in_of hy hn
  rw [ixn (by omega), ixn (by omega)] at h
  rw [h]
theorem fin_step {T j : Nat} {P : Int32 → Prop} {z u : St} {c t : Int32} (hT : T ≤ 16) (hcpu : ∀ i, vp_in (z.1 0 i) 8) (hc : vp_in c 8) (hcj : c / 2 = nI j) (hPc : ¬ P c) (h3 : u.1 3 = z.1 3) (h8 : u.1 8 = upd (z.1 8) (ix c) t)
    (ht : (t = -1 ∧ u.1 0 = z.1 0) ∨ ∃ o : Nat, o < T ∧ t = nI o ∧ rn (z.1 3 o) ∧ u.1 0 = upd (z.1 0) o c) (i : Nat) : fin3 T j (fun x => P x ∨ x = c) u i = (if t = -1 then fin3 T j P z i else upd (fin3 T j P z) (ix t) 1 i) := by
  -- a task whose cpu stays
  have stay : u.1 0 i = z.1 0 i → ¬ t = nI i → fin3 T j (fun x => P x ∨ x = c) u i = fin3 T j P z i := by
    intro h0 hti
    by_cases h : i < T ∧ rn (z.1 3 i) ∧ (z.1 0 i) / 2 = nI j
    · have hu : i < T ∧ rn (u.1 3 i) ∧ (u.1 0 i) / 2 = nI j := by rw [h3, h0]; exact h
      by_cases hcc : z.1 0 i = c
      · have a1 : ¬ ((fun x => P x ∨ x = c) (u.1 0 i) ∧ u.1 8 (ix (u.1 0 i)) = nI i) := by
          intro q
          have q2 := q.2
          rw [h0, hcc, h8, upd_s] at q2
          exact hti q2
        rw [fin_n hu a1, fin_n h (fun q => hPc (by have := q.1; rw [hcc] at this; exact this))]
      · have e8 : u.1 8 (ix (u.1 0 i)) = z.1 8 (ix (z.1 0 i)) := by
          rw [h0, h8, upd_n _ _ _ (fun q => hcc (in_ix (by decide) (hcpu i) hc q))]
        by_cases h2 : P (z.1 0 i) ∧ z.1 8 (ix (z.1 0 i)) = nI i
        · rw [fin_y h h2, fin_y hu ⟨Or.inl (by rw [h0]; exact h2.1), by rw [e8]; exact h2.2⟩]
        · have a1 : ¬ ((fun x => P x ∨ x = c) (u.1 0 i) ∧ u.1 8 (ix (u.1 0 i)) = nI i) := by
            intro q
            refine h2 ⟨?_, by rw [← e8]; exact q.2⟩
            rcases q.1 with q1 | q1
            · rw [h0] at q1; exact q1
            · rw [h0] at q1; exact absurd q1 hcc
          rw [fin_n h h2, fin_n hu a1]
    · rw [fin_o h, fin_o (by rw [h3, h0]; exact h), h3]
  rcases ht with ⟨ht, h0⟩ | ⟨o, ho, ht, hr, h0⟩
  · rw [if_pos ht]
    by_cases hi : i < 16
    · exact stay (by rw [h0]) (by rw [ht]; exact fun q => nI_ne1 hi q.symm)
    · rw [fin_o (fun q => hi (by omega)), fin_o (fun q => hi (by omega)), h3]
  · rw [if_neg (by rw [ht]; exact nI_ne1 (by omega)), ht, ixn (by omega)]
    by_cases hio : i = o
    · subst hio
      rw [upd_s]
      have e0 : u.1 0 i = c := by rw [h0, upd_s]
      exact fin_y ⟨ho, by rw [h3]; exact hr, by rw [e0]; exact hcj⟩ ⟨Or.inr e0, by rw [e0, h8, upd_s]; exact ht⟩
    · rw [upd_n _ _ _ hio]
      by_cases hi : i < 16
      · refine stay (by rw [h0, upd_n _ _ _ hio]) (fun q => hio ?_)
        rw [ht] at q
        exact ((nI_eq (by omega) (by omega)).mp q).symm
      · rw [fin_o (fun q => hi (by omega)), fin_o (fun q => hi (by omega)), h3]
theorem run_s3 (T C : Nat) (z : St) (r : Nat → Int32) (t : Int32) (h : ∀ i, rn (r i) ↔ rn (z.1 3 i)) : f_X0_isRunnable T C (s3 z r) t = f_X0_isRunnable T C z t := by
  have a : (f_X0_isRunnable T C (s3 z r) t = 0) ↔ (f_X0_isRunnable T C z t = 0) := by
    rw [rn_f, rn_f]
    exact not_congr (h (ix t))
  have b : ∀ s : St, f_X0_isRunnable T C s t = 0 ∨ f_X0_isRunnable T C s t = 1 := by
    intro s
    unfold f_X0_isRunnable
    split
    · exact Or.inr rfl
    · split
      · exact Or.inr rfl
      · exact Or.inl rfl
  rcases b (s3 z r) with h1 | h1 <;> rcases b z with h2 | h2
  · rw [h1, h2]
  · exact absurd (a.mp h1) (by rw [h2]; decide)
  · exact absurd (a.mpr h2) (by rw [h1]; decide)
  · rw [h1, h2]
theorem cb_s3 (T C : Nat) (z : St) (r : Nat → Int32) (t o : Int32) : f_X0_comesBefore T C (s3 z r) t o = f_X0_comesBefore T C z t o := rfl
theorem own_s3 (T C : Nat) (z : St) (r : Nat → Int32) (c k : Int32) (h : ∀ i, rn (r i) ↔ rn (z.1 3 i)) : f_X0_findOwn T C (s3 z r) c k = f_X0_findOwn T C z c k := by
  refine lp_ext (N := T) (fun i y _ => ?_) T 0 (-1) (by omega)
  unfold F_X0_findOwn_5 f_X0_isQueued
  rw [run_s3 T C z r _ h, cb_s3]
  rfl
theorem cntQ_s3 (T C : Nat) (z : St) (r : Nat → Int32) (c : Int32) (h : ∀ i, rn (r i) ↔ rn (z.1 3 i)) : f_X0_countQueue T C (s3 z r) c = f_X0_countQueue T C z c := by
  refine lp_ext (N := T) (fun i y _ => ?_) T 0 0 (by omega)
  unfold F_X0_countQueue_4 f_X0_isQueued
  rw [run_s3 T C z r _ h]
  rfl
theorem loot_s3 (T C : Nat) (z : St) (j : Nat) (P : Int32 → Prop) (k : Int32) : f_X0_findLoot T C (s3 z (fin3 T j P z)) (nI j) k = f_X0_findLoot T C z (nI j) k := by
  refine lp_ext (N := T) (fun i y hi => ?_) T 0 (-1) (by omega)
  unfold F_X0_findLoot_5
  rw [cb_s3]
  have e : f_X0_isLoot T C (s3 z (fin3 T j P z)) (nI i) (nI j) k = f_X0_isLoot T C z (nI i) (nI j) k := by
    unfold f_X0_isLoot f_X0_isOnCore f_X0_coreOfCpu
    show (if fin3 T j P z (ix (nI i)) = 0 then (if z.1 2 (ix (nI i)) = k then (if (if (z.1 0 (ix (nI i))) / 2 = nI j then (1 : Int32) else 0) = 0 then (1 : Int32) else 0) else 0) else 0) = _
    by_cases h : (z.1 0 (ix (nI i))) / 2 = nI j
    · simp only [if_pos h, if_neg ne10, ite_self]
    · rw [fin_o (fun q => h q.2.2)]
  rw [e]
/-- which task a CPU gets, and the picture behind it
-/
def tk (T C j : Nat) (L : Int32) (z : St) (c k : Int32) : Int32 := if L = (-1) then (-1) else (if f_X0_findOwn T C z c k = (-1) then (if z.2.2 16 = 0 then (-1) else f_X0_findLoot T C z (nI j) k) else f_X0_findOwn T C z c k)
def mv (T C j : Nat) (L : Int32) (z : St) (c k : Int32) : St := if L = (-1) then z else (if f_X0_findOwn T C z c k = (-1) then (if z.2.2 16 = 0 then z else (if f_X0_findLoot T C z (nI j) k = (-1) then z else sS (g_X0_moveRunnable T C z (f_X0_findLoot T C z (nI j) k) c) 15 (z.2.2 15 + 1))) else z)
def st8 (T C : Nat) (y : St) (c t : Int32) : St := sI (sI y 8 (ix c) t) 9 (ix c) (vp_nar .boolean (if t = (-1) then (if (f_X0_countQueue T C (sI y 8 (ix c) t) c) ≤ 0 then 0 else 1) else 0))
