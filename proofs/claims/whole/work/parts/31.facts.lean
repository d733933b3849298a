/-! what the start gives for throwing -/
theorem st_off {l : Launch} (h : l.flags = flags0) : l.stackTraces = false := by
  unfold Launch.stackTraces
  rw [h]
  decide +kernel
section FT
variable {args : Array Value} {s : State}
theorem nc_of (hs : ∀ w ∈ flatC (Jvm.Cond.and given_1 narrow_1), w.before args s = true) : NC s := ⟨va_Nc.of (hs (.not (.castable xISE xIAE)) (by decide +kernel)), va_Nc.of (hs (.not (.castable xIOO xIAE)) (by decide +kernel))⟩
theorem ng_of (hts : ∀ w ∈ lw_tbl, w.before args s = true) : ∀ w ∈ ngW, va_Nw w s := fun w hw => va_Nw.of (ngW_on w hw) (hts w ((show ∀ w ∈ ngW, w ∈ lw_tbl by decide +kernel) w hw))
theorem str_of (hts : ∀ w ∈ lw_tbl, w.before args s = true) (hs : ∀ w ∈ flatC (Jvm.Cond.and given_1 narrow_1), w.before args s = true) : ∀ q ∈ strL, ∃ a : Nat, vk_R RX0 q.1 q.2 a s := by
  intro q hq
  have h1 := hts (.stringRef RX0 q.1 q.2) ((show ∀ q ∈ strL, Cond.stringRef RX0 q.1 q.2 ∈ lw_tbl by decide +kernel) q hq)
  have h2 := hs (.exactly (.string RX0 q.1) "java/lang/String") ((show ∀ q ∈ strL, Cond.exactly (.string RX0 q.1) "java/lang/String" ∈ flatC (Jvm.Cond.and given_1 narrow_1) by decide +kernel) q hq)
  obtain ⟨a, cc, cell, k, h, -⟩ := Cond.exactly_spec h2
  exact ⟨a, vk_R.of (A := args) h1 h⟩
theorem both {w : Cond} (hts : ∀ w ∈ lw_tbl, w.before args s = true) (hs : ∀ w ∈ flatC (Jvm.Cond.and given_1 narrow_1), w.before args s = true) (h : w ∈ lw_tbl ++ flatC (Jvm.Cond.and given_1 narrow_1)) : w.before args s = true := (List.mem_append.mp h).elim (hts w) (hs w)
theorem xf_of (hts : ∀ w ∈ lw_tbl, w.before args s = true) (hs : ∀ w ∈ flatC (Jvm.Cond.and given_1 narrow_1), w.before args s = true) (q : Nat → Nat) (hq : ∀ a, Aq q a → s.heap.size ≤ a) : XF q s :=
  ⟨⟨vx_Zqof (both hts hs (by decide +kernel)) (hts _ (lw_all_tbl ini_Throwable)) (both hts hs (by decide +kernel)) (fun a ha h => absurd ha (Nat.not_lt.mpr (hq a h))), vx_Zqof (both hts hs (by decide +kernel)) (hts _ (lw_all_tbl ini_Throwable)) (both hts hs (by decide +kernel)) (fun a ha h => absurd ha (Nat.not_lt.mpr (hq a h)))⟩, ng_of hts, str_of hts hs⟩
end FT
