/-! what the reference's refusals say -/
theorem in_eq (x a b : Int64) : f_X1_in x a b = (if x < a then 0 else if b < x then 0 else 1) := by
  unfold f_X1_in
  simp only [lg_cmp_lt, lg_cmp_gt]
theorem i64_lt (x y : Int32) : (Int32.toInt64 x < Int32.toInt64 y) ↔ x < y := by
  rw [Int64.lt_iff_toInt_lt, Int32.lt_iff_toInt_lt, Int32.toInt_toInt64, Int32.toInt_toInt64]
theorem i64_ltc (x : Int32) (n : Nat) (h : n < 2 ^ 31) : (lN n < Int32.toInt64 x) ↔ nI n < x := by
  rw [Int64.lt_iff_toInt_lt, Int32.lt_iff_toInt_lt, Int32.toInt_toInt64, lN_toInt h, nI_toInt h]
theorem i64_ltd (x : Int32) (n : Nat) (h : n < 2 ^ 31) : (Int32.toInt64 x < lN n) ↔ x < nI n := by
  rw [Int64.lt_iff_toInt_lt, Int32.lt_iff_toInt_lt, Int32.toInt_toInt64, lN_toInt h, nI_toInt h]
/-- t is not in 0 .. N - 1 -/
def out (t : Int32) (N : Nat) : Int32 := if t < 0 then 1 else if nI N ≤ t then 1 else 0
theorem out_in {t : Int32} {N : Nat} (hN : N < 2 ^ 31) (h : out t N = 0) : ∃ j : Nat, j < N ∧ t = nI j := by
  unfold out at h
  by_cases h1 : t < 0
  · rw [if_pos h1] at h; exact absurd h (by decide)
  · rw [if_neg h1] at h
    by_cases h2 : nI N ≤ t
    · rw [if_pos h2] at h; exact absurd h (by decide)
    · obtain ⟨j, hj, rfl⟩ := nI_of h1
      exact ⟨j, by rw [nI_leI hN hj] at h2; omega, rfl⟩
theorem out_nI {j N : Nat} (h : j < N) (hN : N < 2 ^ 31) : out (nI j) N = 0 := by
  unfold out
  rw [if_neg (nI_pos (by omega)), if_neg (nI_ge h hN)]
theorem out_01 (t : Int32) (N : Nat) : out t N = 0 ∨ out t N = 1 := by
  unfold out
  split
  · exact Or.inr rfl
  · split
    · exact Or.inr rfl
    · exact Or.inl rfl
theorem out_gen (t x : Int32) (N : Nat) (hN : N < 2 ^ 31) (hx : x = nI N) : (if f_X1_in (Int32.toInt64 t) 0 (Int32.toInt64 (x - 1)) = 0 then (1 : Int32) else 0) = out t N := by
  rw [in_eq]
  have a1 : (Int32.toInt64 t < 0) ↔ t < 0 := i64_ltd t 0 (by decide)
  simp only [i64_lt, a1]
  unfold out
  by_cases h1 : t < 0
  · rw [if_pos h1, if_pos h1, if_pos rfl]
  · rw [if_neg h1, if_neg h1]
    have hk : (x - 1 < t) ↔ nI N ≤ t := by
      subst hx
      rw [Int32.lt_iff_toInt_lt, Int32.le_iff_toInt_le, nI_toInt hN]
      have h0 : (0 : Int32) ≤ t := Int32.not_lt.mp h1
      rw [Int32.le_iff_toInt_le] at h0
      have z0 : (0 : Int32).toInt = 0 := rfl
      rw [z0] at h0
      have hs : (nI N - 1).toInt = (N : Int) - 1 := by
        rw [Int32.toInt_sub, nI_toInt hN]
        have z1 : (1 : Int32).toInt = 1 := rfl
        rw [z1]
        rw [Int.bmod_eq_of_le (by omega) (by omega)]
      rw [hs]
      omega
    by_cases h2 : nI N ≤ t
    · rw [if_pos h2, if_pos (hk.mpr h2), if_pos rfl]
    · rw [if_neg h2, if_neg (fun h => h2 (hk.mp h)), if_neg (by decide)]
theorem noTask_eq {T C : Nat} {σ : St} (hI : Inv T C σ) (hT : T ≤ 16) (t : Int32) : f_X1_noTask T C σ t = out t T := out_gen t _ T (by omega) hI.2.1
theorem noCpu_eq {T C : Nat} {σ : St} (hI : Inv T C σ) (hC : 1 ≤ C ∧ C ≤ 4) (t : Int32) : f_X1_noCpu T C σ t = out t (2 * C) := out_gen t _ (2 * C) (by omega) (cpuT hI)
theorem noCore_eq {T C : Nat} {σ : St} (hI : Inv T C σ) (hC : 1 ≤ C ∧ C ≤ 4) (t : Int32) : f_X1_noCore T C σ t = out t C := out_gen t _ C (by omega) hI.2.2.1
theorem noWeight_eq (w : Int32) : f_X1_noWeight w = (if w < 1 then 1 else if 64 < w then 1 else 0) := by
  unfold f_X1_noWeight
  rw [in_eq]
  have a1 : (Int32.toInt64 w < 1) ↔ w < 1 := i64_ltd w 1 (by decide)
  have a2 : (64 < Int32.toInt64 w) ↔ 64 < w := i64_ltc w 64 (by decide)
  simp only [a1, a2]
  by_cases h1 : w < 1
  · rw [if_pos h1, if_pos h1, if_pos rfl]
  · rw [if_neg h1, if_neg h1]
    by_cases h2 : 64 < w
    · rw [if_pos h2, if_pos h2, if_pos rfl]
    · rw [if_neg h2, if_neg h2, if_neg (by decide)]
theorem noCookie_eq (w : Int32) : f_X1_noCookie w = (if w < 0 then 1 else if 9 < w then 1 else 0) := by
  unfold f_X1_noCookie
  rw [in_eq]
  have a1 : (Int32.toInt64 w < 0) ↔ w < 0 := i64_ltd w 0 (by decide)
  have a2 : (9 < Int32.toInt64 w) ↔ 9 < w := i64_ltc w 9 (by decide)
  simp only [a1, a2]
  by_cases h1 : w < 0
  · rw [if_pos h1, if_pos h1, if_pos rfl]
  · rw [if_neg h1, if_neg h1]
    by_cases h2 : 9 < w
    · rw [if_pos h2, if_pos h2, if_pos rfl]
    · rw [if_neg h2, if_neg h2, if_neg (by decide)]
/-- which refusal it is: 1 the argument's, 2 the other, 0 none -/
def rc (a b : Int32) : Int32 := if a = 0 then (if b = 0 then 0 else 2) else 1
theorem isRef_g (T C : Nat) (σ : St) (a b : Int32) : g_X1_isRefused T C σ a b = sS σ 17 (rc a b) := rfl
theorem isRef_f (T C : Nat) (σ : St) (a b : Int32) : f_X1_isRefused T C σ a b = (if rc a b = 0 then 0 else 1) := by
  show (if rc a b ≤ 0 then (0 : Int32) else 1) = _
  unfold rc
  by_cases h1 : a = 0
  · rw [if_pos h1]
    by_cases h2 : b = 0
    · rw [if_pos h2]; rfl
    · rw [if_neg h2]; rfl
  · rw [if_neg h1]; rfl
theorem ref0 {T C : Nat} {σ : St} {a b : Int32} (h : f_X1_isRefused T C σ a b = 0) : a = 0 ∧ b = 0 := by
  rw [isRef_f] at h
  unfold rc at h
  by_cases h1 : a = 0
  · rw [if_pos h1] at h
    by_cases h2 : b = 0
    · exact ⟨h1, h2⟩
    · rw [if_neg h2] at h; exact absurd h (by decide)
  · rw [if_neg h1] at h; exact absurd h (by decide)
theorem inT {T C : Nat} {σ : St} {t : Int32} (hI : Inv T C σ) (hT : T ≤ 16) (h : f_X1_noTask T C σ t = 0) : vp_in t 16 := by
  rw [noTask_eq hI hT] at h
  obtain ⟨j, hj, rfl⟩ := out_in (by omega) h
  exact vp_in_nI (by omega) (by decide)
theorem inC {T C : Nat} {σ : St} {t : Int32} (hI : Inv T C σ) (hC : 1 ≤ C ∧ C ≤ 4) (h : f_X1_noCpu T C σ t = 0) : vp_in t 8 := by
  rw [noCpu_eq hI hC] at h
  obtain ⟨j, hj, rfl⟩ := out_in (by omega) h
  exact vp_in_nI (by omega) (by decide)
theorem inR {T C : Nat} {σ : St} {t : Int32} (hI : Inv T C σ) (hC : 1 ≤ C ∧ C ≤ 4) (h : f_X1_noCore T C σ t = 0) : vp_in t 4 := by
  rw [noCore_eq hI hC] at h
  obtain ⟨j, hj, rfl⟩ := out_in (by omega) h
  exact vp_in_nI (by omega) (by decide)
theorem inW {w : Int32} (h : f_X1_noWeight w = 0) : ¬ w < 1 := by
  rw [noWeight_eq] at h
  intro h1
  rw [if_pos h1] at h
  exact absurd h (by decide)
