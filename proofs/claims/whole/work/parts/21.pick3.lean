theorem x1_step (T C j i : Nat) (σ z : St) (L K : Int32) (hL : L = f_X0_findLeader T C σ (nI j)) (hK : K = z.1 12 (ix (nI j))) : F_X1_picks_31 T C σ j i z = st8 T C (mv T C j L z (nI i) K) (nI i) (tk T C j L z (nI i) K) := by
  unfold F_X1_picks_31 mv tk st8
  rw [leader_eq, own_eq, loot_eq, gto_eq, ← hL, ← hK]
  simp only [cntQ_eq]
  by_cases h1 : L = (-1)
  · simp only [if_pos h1, if_true]
  · simp only [if_neg h1]
    by_cases h2 : f_X0_findOwn T C z (nI i) K = (-1)
    · simp only [if_pos h2, if_true]
      by_cases h3 : z.2.2 16 = 0
      · simp only [if_pos h3, if_true]
      · simp only [if_neg h3]
        rfl
    · simp only [if_neg h2]
theorem x0_step (T C j i : Nat) (σ w : St) (L K : Int32) (hL : L = f_X0_findLeader T C σ (nI j)) (hK : K = if L = (-1) then (-1) else σ.1 2 (ix L)) (hij : nI i / 2 = nI j) : F_X0_pickForCore_43 T C σ j i w = (if tk T C j L w (nI i) K = (-1) then st8 T C (mv T C j L w (nI i) K) (nI i) (tk T C j L w (nI i) K) else sI (st8 T C (mv T C j L w (nI i) K) (nI i) (tk T C j L w (nI i) K)) 3 (ix (tk T C j L w (nI i) K)) 1) := by
  have a1 : (if f_X0_findLeader T C σ (nI j) = (-1) then (-1) else (f_X0_takeTask T C w (nI i) (if (f_X0_findLeader T C σ (nI j)) = (-1) then (-1) else (σ.1 2 (ix (f_X0_findLeader T C σ (nI j))))))) = tk T C j L w (nI i) K := by
    rw [← hL, ← hK]
    unfold tk f_X0_takeTask f_X0_coreOfCpu
    rw [hij]
    by_cases h1 : L = (-1)
    · simp only [if_pos h1]
    · simp only [if_neg h1]
      by_cases h2 : f_X0_findOwn T C w (nI i) K = (-1)
      · simp only [if_pos h2]; rw [h2]
      · simp only [if_neg h2]
  have a2 : (if f_X0_findLeader T C σ (nI j) = (-1) then w else (g_X0_takeTask T C w (nI i) (if (f_X0_findLeader T C σ (nI j)) = (-1) then (-1) else (σ.1 2 (ix (f_X0_findLeader T C σ (nI j))))))) = mv T C j L w (nI i) K := by
    rw [← hL, ← hK]
    unfold mv g_X0_takeTask f_X0_coreOfCpu
    rw [hij]
    rfl
  unfold F_X0_pickForCore_43
  rw [a1, a2]
  rfl
theorem sI_s3 (z : St) (r : Nat → Int32) {a : Nat} (ha : a ≠ 3) (i : Nat) (v : Int32) : sI (s3 z r) a i v = s3 (sI z a i v) r := by
  refine St_ext (fun b k => ?_) (fun _ _ => rfl) (fun _ => rfl)
  rw [sI_at]
  show _ = (if b = 3 then r else (sI z a i v).1 b) k
  by_cases hb : b = 3
  · rw [if_pos hb, if_neg (fun q => ha (q.1.symm.trans hb))]
    show (if b = 3 then r else z.1 b) k = _
    rw [if_pos hb]
  · rw [if_neg hb, sI_at]
    by_cases h : b = a ∧ k = i
    · rw [if_pos h, if_pos h]
    · rw [if_neg h, if_neg h]
      show (if b = 3 then r else z.1 b) k = _
      rw [if_neg hb]
theorem sI3_s3 (z : St) (r : Nat → Int32) (i : Nat) (v : Int32) : sI (s3 z r) 3 i v = s3 z (upd r i v) := by
  refine St_ext (fun b k => ?_) (fun _ _ => rfl) (fun _ => rfl)
  rw [sI_at]
  show _ = (if b = 3 then upd r i v else z.1 b) k
  by_cases hb : b = 3
  · rw [if_pos hb]
    by_cases h : k = i
    · rw [if_pos ⟨hb, h⟩, h, upd_s]
    · rw [if_neg (fun q => h q.2), upd_n _ _ _ h]
      show (if b = 3 then r else z.1 b) k = _
      rw [if_pos hb]
  · rw [if_neg (fun q => hb q.1), if_neg hb]
    show (if b = 3 then r else z.1 b) k = _
    rw [if_neg hb]
theorem mvr_s3 (T C : Nat) (z : St) (r : Nat → Int32) (t c : Int32) : g_X0_moveRunnable T C (s3 z r) t c = s3 (g_X0_moveRunnable T C z t c) r := sI_s3 (sJ z 4 (ix t) ((f_X0_relativeTime T C z t) + (z.2.1 7 (ix c)))) r (by decide) (ix t) c
theorem st8_s3 (T C : Nat) (y : St) (r : Nat → Int32) (c t : Int32) (h : ∀ i, rn (r i) ↔ rn (y.1 3 i)) : st8 T C (s3 y r) c t = s3 (st8 T C y c t) r := by
  unfold st8
  rw [sI_s3 y r (by decide), cntQ_s3 T C (sI y 8 (ix c) t) r c h, sI_s3 _ r (by decide)]
theorem mv3 (T C j : Nat) (L : Int32) (z : St) (c k : Int32) : (mv T C j L z c k).1 3 = z.1 3 := by
  unfold mv
  split
  · rfl
  · split
    · split
      · rfl
      · split
        · rfl
        · rfl
    · rfl
theorem mv8 (T C j : Nat) (L : Int32) (z : St) (c k : Int32) : (mv T C j L z c k).1 8 = z.1 8 := by
  unfold mv
  split
  · rfl
  · split
    · split
      · rfl
      · split
        · rfl
        · rfl
    · rfl
theorem mv12 (T C j : Nat) (L : Int32) (z : St) (c k : Int32) : (mv T C j L z c k).1 12 = z.1 12 := by
  unfold mv
  split
  · rfl
  · split
    · split
      · rfl
      · split
        · rfl
        · rfl
    · rfl
theorem mv_s3 (T C j : Nat) (P : Int32 → Prop) (L : Int32) (z : St) (c k : Int32) : mv T C j L (s3 z (fin3 T j P z)) c k = s3 (mv T C j L z c k) (fin3 T j P z) := by
  unfold mv
  rw [own_s3 T C z _ c k (fun i => fin_rn i), loot_s3]
  show (if L = (-1) then s3 z (fin3 T j P z) else (if f_X0_findOwn T C z c k = (-1) then (if z.2.2 16 = 0 then s3 z (fin3 T j P z) else (if f_X0_findLoot T C z (nI j) k = (-1) then s3 z (fin3 T j P z) else sS (g_X0_moveRunnable T C (s3 z (fin3 T j P z)) (f_X0_findLoot T C z (nI j) k) c) 15 (z.2.2 15 + 1))) else s3 z (fin3 T j P z))) = _
  rw [mvr_s3]
  by_cases h1 : L = (-1)
  · simp only [if_pos h1]
  · simp only [if_neg h1]
    by_cases h2 : f_X0_findOwn T C z c k = (-1)
    · simp only [if_pos h2]
      by_cases h3 : z.2.2 16 = 0
      · simp only [if_pos h3]
      · simp only [if_neg h3]
        by_cases h4 : f_X0_findLoot T C z (nI j) k = (-1)
        · simp only [if_pos h4]
        · simp only [if_neg h4]
          rfl
    · simp only [if_neg h2]
theorem tk_s3 (T C j : Nat) (P : Int32 → Prop) (L : Int32) (z : St) (c k : Int32) : tk T C j L (s3 z (fin3 T j P z)) c k = tk T C j L z c k := by
  unfold tk
  rw [own_s3 T C z _ c k (fun i => fin_rn i), loot_s3]
  rfl
/-- who is taken -/
theorem tk_mv (T C j : Nat) (hT : T ≤ 16) (L : Int32) (z : St) (c k : Int32) : (tk T C j L z c k = -1 ∧ (mv T C j L z c k).1 0 = z.1 0) ∨ ∃ o : Nat, o < T ∧ tk T C j L z c k = nI o ∧ rn (z.1 3 o) ∧ (mv T C j L z c k).1 0 = upd (z.1 0) o c := by
  unfold tk mv
  by_cases h1 : L = (-1)
  · simp only [if_pos h1]; exact Or.inl ⟨trivial, trivial⟩
  · simp only [if_neg h1]
    by_cases h2 : f_X0_findOwn T C z c k = (-1)
    · simp only [if_pos h2]
      by_cases h3 : z.2.2 16 = 0
      · simp only [if_pos h3]; exact Or.inl ⟨trivial, trivial⟩
      · simp only [if_neg h3]
        rcases loot_found T C z (nI j) k with h4 | ⟨o, ho, h4, h5, h6⟩
        · rw [if_pos h4]; exact Or.inl ⟨h4, rfl⟩
        · rw [ixn (by omega)] at h5
          rw [if_neg (by rw [h4]; exact nI_ne1 (by omega))]
          refine Or.inr ⟨o, ho, h4, Or.inl h5, ?_⟩
          show upd (z.1 0) (ix (f_X0_findLoot T C z (nI j) k)) c = _
          rw [h4, ixn (by omega)]
    · simp only [if_neg h2]
      rcases own_found T C z c k with h4 | ⟨o, ho, h4, h5, h6⟩
      · exact absurd h4 h2
      · rw [rn_f] at h5
        rw [ixn (by omega)] at h5 h6
        refine Or.inr ⟨o, ho, h4, Classical.not_not.mp h5, ?_⟩
        funext i
        by_cases hi : i = o
        · rw [hi, upd_s]; exact h6
        · rw [upd_n _ _ _ hi]
theorem pick_step {T C j i : Nat} (hT : T ≤ 16) (σ z : St) (P : Int32 → Prop) (L K : Int32) (hL : L = f_X0_findLeader T C σ (nI j)) (hK : K = if L = (-1) then (-1) else σ.1 2 (ix L)) (hz : z.1 12 (ix (nI j)) = K) (hij : nI i / 2 = nI j) (hi : i < 8) (hcpu : ∀ k, vp_in (z.1 0 k) 8) (hP : ¬ P (nI i)) :
    F_X0_pickForCore_43 T C σ j i (s3 z (fin3 T j P z)) = s3 (F_X1_picks_31 T C σ j i z) (fin3 T j (fun x => P x ∨ x = nI i) (F_X1_picks_31 T C σ j i z)) ∧ (∀ k, vp_in ((F_X1_picks_31 T C σ j i z).1 0 k) 8) ∧ (F_X1_picks_31 T C σ j i z).1 12 (ix (nI j)) = K := by
  rw [x0_step T C j i σ _ L K hL hK hij, x1_step T C j i σ z L K hL hz.symm, tk_s3, mv_s3]
  have h3 : (mv T C j L z (nI i) K).1 3 = z.1 3 := mv3 _ _ _ _ _ _ _
  rw [st8_s3 T C _ _ _ _ (fun k => by rw [h3]; exact fin_rn k), sI3_s3]
  have hu3 : (st8 T C (mv T C j L z (nI i) K) (nI i) (tk T C j L z (nI i) K)).1 3 = z.1 3 := h3
  have hu8 : (st8 T C (mv T C j L z (nI i) K) (nI i) (tk T C j L z (nI i) K)).1 8 = upd (z.1 8) (ix (nI i)) (tk T C j L z (nI i) K) := by
    show upd ((mv T C j L z (nI i) K).1 8) _ _ = _
    rw [mv8]
  have hcin : vp_in (nI i) 8 := vp_in_nI hi (by decide)
  refine ⟨?_, ?_, ?_⟩
  · have hf : fin3 T j (fun x => P x ∨ x = nI i) (st8 T C (mv T C j L z (nI i) K) (nI i) (tk T C j L z (nI i) K)) = (if tk T C j L z (nI i) K = -1 then fin3 T j P z else upd (fin3 T j P z) (ix (tk T C j L z (nI i) K)) 1) := by
      funext k
      rw [fin_step hT hcpu hcin hij hP hu3 hu8 (tk_mv T C j hT L z (nI i) K) k]
      split <;> rfl
    rw [hf]
    split <;> rfl
  · intro k
    show vp_in ((mv T C j L z (nI i) K).1 0 k) 8
    rcases tk_mv T C j hT L z (nI i) K with ⟨-, h⟩ | ⟨o, -, -, -, h⟩
    · rw [h]; exact hcpu k
    · rw [h]
      unfold upd
      split
      · exact hcin
      · exact hcpu k
  · show (mv T C j L z (nI i) K).1 12 (ix (nI j)) = K
    rw [mv12]
    exact hz
theorem half_even (j : Nat) (h : j < 4) : nI (2 * j) / 2 = nI j := by
  rcases (show j = 0 ∨ j = 1 ∨ j = 2 ∨ j = 3 by omega) with rfl | rfl | rfl | rfl <;> decide
theorem half_odd (j : Nat) (h : j < 4) : nI (2 * j + 1) / 2 = nI j := by
  rcases (show j = 0 ∨ j = 1 ∨ j = 2 ∨ j = 3 by omega) with rfl | rfl | rfl | rfl <;> decide
theorem half_of {x : Int32} {j : Nat} (hx : vp_in x 8) (hj : j < 4) (h : x / 2 = nI j) : x = nI (2 * j) ∨ x = nI (2 * j + 1) := by
  obtain ⟨m, hm, rfl⟩ := vp_in_of hx (by decide)
  have e : m = 2 * (m / 2) ∨ m = 2 * (m / 2) + 1 := by omega
  have h2 : nI m / 2 = nI (m / 2) := by
    rcases e with e | e
    · rw [e]; rw [half_even _ (by omega)]; congr 1; omega
    · rw [e]; rw [half_odd _ (by omega)]; congr 1; omega
  rw [h2] at h
  have h3 : m / 2 = j := (nI_eq (by omega) (by omega)).mp h
  rw [← h3]
  rcases e with e | e
  · left; rw [← e]
  · right; rw [← e]
theorem pick_eq {T C j : Nat} {σ : St} (hT : T ≤ 16) (hI : Inv T C σ) (hj : j < 4) : g_X1_picks T C σ j = g_X0_pickForCore T C σ j := by
  obtain ⟨L, hL⟩ : ∃ L, L = f_X0_findLeader T C σ (nI j) := ⟨_, rfl⟩
  obtain ⟨K, hK⟩ : ∃ K : Int32, K = if L = (-1) then (-1) else σ.1 2 (ix L) := ⟨_, rfl⟩
  obtain ⟨z, hz⟩ : ∃ z, z = sI σ 12 (ix (nI j)) K := ⟨_, rfl⟩
  have z12 : z.1 12 (ix (nI j)) = K := by rw [hz, sI_at, if_pos ⟨rfl, rfl⟩]
  have zc : ∀ k, vp_in (z.1 0 k) 8 := by rw [hz]; exact hI.1
  have s1 := pick_step (i := 2 * j) hT σ z (fun _ => False) L K hL hK z12 (half_even j hj) (by omega) zc (fun q => q)
  have s2 := pick_step (i := 2 * j + 1) hT σ _ (fun x => False ∨ x = nI (2 * j)) L K hL hK s1.2.2 (half_odd j hj) (by omega) s1.2.1 (fun q => by
    rcases q with q | q
    · exact q
    · have := (nI_eq (a := 2 * j + 1) (b := 2 * j) (by omega) (by omega)).mp q
      omega)
  have e1 : g_X1_picks T C σ j = lp (F_X1_picks_150 T C j) T 0 (F_X1_picks_31 T C σ j (2 * j + 1) (F_X1_picks_31 T C σ j (2 * j) z)) := by
    unfold g_X1_picks
    rw [leader_eq, ← hL, ← hK, ← hz]
    rfl
  have e2 : g_X0_pickForCore T C σ j = F_X0_pickForCore_43 T C σ j (2 * j + 1) (F_X0_pickForCore_43 T C σ j (2 * j) (g_X0_releaseTasks T C z (nI j))) := by
    unfold g_X0_pickForCore
    rw [← hL, ← hK, ← hz]
    rfl
  rw [e1, e2, rel_fin hT, s1.1, s2.1, end_fin hT]
  congr 1
  funext k
  by_cases h : k < T ∧ rn ((F_X1_picks_31 T C σ j (2 * j + 1) (F_X1_picks_31 T C σ j (2 * j) z)).1 3 k) ∧ ((F_X1_picks_31 T C σ j (2 * j + 1) (F_X1_picks_31 T C σ j (2 * j) z)).1 0 k) / 2 = nI j
  · have hc := half_of (s2.2.1 k) hj h.2.2
    by_cases h8 : (F_X1_picks_31 T C σ j (2 * j + 1) (F_X1_picks_31 T C σ j (2 * j) z)).1 8 (ix ((F_X1_picks_31 T C σ j (2 * j + 1) (F_X1_picks_31 T C σ j (2 * j) z)).1 0 k)) = nI k
    · rw [fin_y h ⟨trivial, h8⟩, fin_y h ⟨hc.elim (fun q => Or.inl (Or.inr q)) Or.inr, h8⟩]
    · rw [fin_n h (fun q => h8 q.2), fin_n h (fun q => h8 q.2)]
  · rw [fin_o h, fin_o h]
