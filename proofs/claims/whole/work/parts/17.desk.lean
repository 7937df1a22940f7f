/-! the desk -/
def cK (N : mm_N) : Prop := (∀ k, k < 4 → 0 ≤ N 2 k ∧ N 2 k ≤ 4) ∧ ∀ p, p < 16 → (0 ≤ N 3 p ∧ N 3 p ≤ 2) ∧ 0 ≤ N 4 p ∧ N 4 p < 8
def cS (N : mm_N) : Prop := ∀ i, i < 12 → (0 ≤ N (19 + i) 0 ∧ N (19 + i) 0 < 4) ∧ (0 ≤ N (19 + i) 2 ∧ N (19 + i) 2 ≤ N (19 + i) 1 ∧ N (19 + i) 1 ≤ N 2 (N (19 + i) 0).toNat) ∧ (N (19 + i) 3 = 0 ∨ N (19 + i) 3 = 1) ∧ (0 ≤ N (19 + i) 4 ∧ N (19 + i) 4 < 96)
theorem mm_f2_row {N : mm_N} {r j a : Nat} {v : Int} (h : a ≠ r) : mm_f2 N r j v a = N a := mm_f0_ne h
theorem cS_mv {N N1 : mm_N} (h : cS N) (h2 : N1 2 = N 2) (hr : ∀ i, i < 12 → N1 (19 + i) = N (19 + i)) : cS N1 := by
  intro i hi
  rw [hr i hi, h2]
  exact h i hi
theorem nd_01 (N : mm_N) (p : Int) : 0 ≤ r_K_nodeAt N p ∧ r_K_nodeAt N p ≤ 1 := by
  unfold r_K_nodeAt
  split <;> omega
def r_D_isWaiting (N : mm_N) (s : Int) : Int := if (r_S_isOver N (s.toNat)) = 0 then (if (r_G_isSafe N (N (19 + (s.toNat)) 4)) = 0 then 0 else 1) else 0
theorem c_D_isWaiting {L : Nat} {xs : Nat → Int} (N : mm_N) (s : Int) (hs : 0 ≤ s ∧ s < 12) (hS : cS N) : mm_Cl mm_pf mm_bd L xs mm_pr 3 27 [.inr (some 0), .inl s] shW N (fun r sh N' => r = some (.inl (r_D_isWaiting N s)) ∧ sh = shW ∧ N = N') := by
  refine mm_start p_D_isWaiting ?_
  have g := hS s.toNat (by omega)
  refine mm_go 3 (Y := (5, [(0, .inr (some 0)), (1, .inl s)], [.inl s, .inr (some 18)], shW, N, 0, 0)) rfl ?_
  refine mm_al rfl rfl (by decide) ⟨by omega, by omega⟩ (sg_at (by omega) (by omega)) (Y := (6, [(0, .inr (some 0)), (1, .inl s)], [.inr (some (19 + s.toNat))], shW, N, 0, 0)) rfl ?_
  refine mm_go 2 (Y := (10, [(0, .inr (some 0)), (1, .inl s)], [.inr (some 1), .inr (some (19 + s.toNat))], shW, N, 0, 0)) rfl ?_
  refine mm_ca rfl ⟨⟨_, sg_o (n := s.toNat) (by omega)⟩, rfl, Nat.le_of_ble_eq_true rfl, Nat.le_of_ble_eq_true rfl⟩ (d' := 2) (by decide) (c_S_isOver N (s.toNat) (by omega) ⟨by first | omega | (simp [mm_f2_at, mm_f0_at]; omega), by first | omega | (simp [mm_f2_at, mm_f0_at]; omega)⟩) ?_
  rintro _ _ _ ⟨rfl, rfl, rfl⟩
  refine mm_go 0 (Y := (13, [(0, .inr (some 0)), (1, .inl s)], [.inl (r_S_isOver N (s.toNat))], shW, N, 0, 0)) rfl ?_
  refine mm_go 1 (Y := (if (r_S_isOver N (s.toNat)) = 0 then 16 else 39, [(0, .inr (some 0)), (1, .inl s)], [], shW, N, 0, 0)) rfl ?_
  refine mm_if (fun h1 => ?_) (fun h1 => ?_)
  · skip
    refine mm_go 5 (Y := (25, [(0, .inr (some 0)), (1, .inl s)], [.inl s, .inr (some 18), .inr (some 16)], shW, N, 0, 0)) rfl ?_
    refine mm_al rfl rfl (by decide) ⟨by omega, by omega⟩ (sg_at (by omega) (by omega)) (Y := (26, [(0, .inr (some 0)), (1, .inl s)], [.inr (some (19 + s.toNat)), .inr (some 16)], shW, N, 0, 0)) rfl ?_
    refine mm_ca rfl ⟨⟨_, sg_o (n := s.toNat) (by omega)⟩, rfl, Nat.le_of_ble_eq_true rfl, Nat.le_of_ble_eq_true rfl⟩ (d' := 1) (by decide) (c_S_lastRecord N (s.toNat) (by omega)) ?_
    rintro _ _ _ ⟨rfl, rfl, rfl⟩
    refine mm_go 0 (Y := (29, [(0, .inr (some 0)), (1, .inl s)], [.inl (N (19 + (s.toNat)) 4), .inr (some 16)], shW, N, 0, 0)) rfl ?_
    refine mm_ca rfl ⟨⟨_, rfl⟩, rfl, Nat.le_of_ble_eq_true rfl, Nat.le_of_ble_eq_true rfl⟩ (d' := 1) (by decide) (c_G_isSafe N (N (19 + (s.toNat)) 4) ⟨by omega, by omega⟩) ?_
    rintro _ _ _ ⟨rfl, rfl, rfl⟩
    refine mm_go 0 (Y := (32, [(0, .inr (some 0)), (1, .inl s)], [.inl (r_G_isSafe N (N (19 + (s.toNat)) 4))], shW, N, 0, 0)) rfl ?_
    refine mm_go 1 (Y := (if (r_G_isSafe N (N (19 + (s.toNat)) 4)) = 0 then 39 else 35, [(0, .inr (some 0)), (1, .inl s)], [], shW, N, 0, 0)) rfl ?_
    refine mm_if (fun h2 => ?_) (fun h2 => ?_)
    · skip
      refine mm_go 1 (Y := (40, [(0, .inr (some 0)), (1, .inl s)], [.inl 0], shW, N, 0, 0)) rfl ?_
      exact mm_rt rfl ⟨rfl, Or.inr ⟨rfl, (Or.inl rfl)⟩⟩ ⟨by unfold r_D_isWaiting; rw [if_pos h1, if_pos h2], rfl, rfl⟩
    · skip
      refine mm_go 2 (Y := (40, [(0, .inr (some 0)), (1, .inl s)], [.inl 1], shW, N, 0, 0)) rfl ?_
      exact mm_rt rfl ⟨rfl, Or.inr ⟨rfl, (Or.inr rfl)⟩⟩ ⟨by unfold r_D_isWaiting; rw [if_pos h1, if_neg h2], rfl, rfl⟩
  · skip
    refine mm_go 1 (Y := (40, [(0, .inr (some 0)), (1, .inl s)], [.inl 0], shW, N, 0, 0)) rfl ?_
    exact mm_rt rfl ⟨rfl, Or.inr ⟨rfl, (Or.inl rfl)⟩⟩ ⟨by unfold r_D_isWaiting; rw [if_neg h1], rfl, rfl⟩
theorem wt_step {N : mm_N} {s : Int} (hs : 0 ≤ s ∧ s < 12) (hK : cK N) (hS : cS N) (h : ¬ r_D_isWaiting N s = 0) : 0 ≤ r_S_nextStep N s.toNat ∧ r_S_nextStep N s.toNat < 4 := by
  have g := hS s.toNat (by omega)
  have k := hK.1 (N (19 + s.toNat) 0).toNat (by omega)
  unfold r_D_isWaiting r_S_isOver at h
  unfold r_S_nextStep
  by_cases h3 : N (19 + s.toNat) 3 = 0
  · simp only [if_pos h3] at h ⊢
    by_cases h4 : N (19 + s.toNat) 1 = N 2 (N (19 + s.toNat) 0).toNat
    · simp [h4] at h
    · omega
  · simp only [if_neg h3] at h ⊢
    by_cases h4 : N (19 + s.toNat) 2 = N (19 + s.toNat) 1
    · simp [h4] at h
    · omega
def r_D_nextRequest (N : mm_N) (s : Int) : Int := if (N (19 + (s.toNat)) 3) = 0 then ((((1000 * s) + (100 * (r_S_nextStep N (s.toNat)))) + (2 * (r_K_nodeAt N ((4 * (N (19 + (s.toNat)) 0)) + (r_S_nextStep N (s.toNat)))))) + 0) else ((((1000 * s) + (100 * (r_S_nextStep N (s.toNat)))) + (2 * (r_K_nodeAt N ((4 * (N (19 + (s.toNat)) 0)) + (r_S_nextStep N (s.toNat)))))) + 1)
theorem c_D_nextRequest {L : Nat} {xs : Nat → Int} (N : mm_N) (s : Int) (hs : 0 ≤ s ∧ s < 12) (hS : cS N) (hK : cK N) (hn : 0 ≤ r_S_nextStep N s.toNat ∧ r_S_nextStep N s.toNat < 4) : mm_Cl mm_pf mm_bd L xs mm_pr 2 31 [.inr (some 0), .inl s] shW N (fun r sh N' => r = some (.inl (r_D_nextRequest N s)) ∧ sh = shW ∧ N = N') := by
  refine mm_start p_D_nextRequest ?_
  have g := hS s.toNat (by omega)
  have k := hK.1 (N (19 + s.toNat) 0).toNat (by omega)
  refine mm_go 3 (Y := (5, [(0, .inr (some 0)), (1, .inl s)], [.inl s, .inr (some 18)], shW, N, 0, 0)) rfl ?_
  refine mm_al rfl rfl (by decide) ⟨by omega, by omega⟩ (sg_at (by omega) (by omega)) (Y := (6, [(0, .inr (some 0)), (1, .inl s)], [.inr (some (19 + s.toNat))], shW, N, 0, 0)) rfl ?_
  refine mm_go 2 (Y := (8, [(2, .inr (some (19 + s.toNat))), (0, .inr (some 0)), (1, .inl s)], [.inr (some (19 + s.toNat))], shW, N, 0, 0)) rfl ?_
  refine mm_ca rfl ⟨⟨_, sg_o (n := s.toNat) (by omega)⟩, rfl, Nat.le_of_ble_eq_true rfl, Nat.le_of_ble_eq_true rfl⟩ (d' := 1) (by decide) (c_S_nextStep N (s.toNat) (by omega) ⟨by first | omega | (simp [mm_f2_at, mm_f0_at]; omega), by first | omega | (simp [mm_f2_at, mm_f0_at]; omega)⟩ ⟨by first | omega | (simp [mm_f2_at, mm_f0_at]; omega), by first | omega | (simp [mm_f2_at, mm_f0_at]; omega)⟩) ?_
  rintro _ _ _ ⟨rfl, rfl, rfl⟩
  refine mm_go 0 (Y := (11, [(2, .inr (some (19 + s.toNat))), (0, .inr (some 0)), (1, .inl s)], [.inl (r_S_nextStep N (s.toNat))], shW, N, 0, 0)) rfl ?_
  refine mm_go 6 (Y := (21, [(3, .inl (r_S_nextStep N (s.toNat))), (2, .inr (some (19 + s.toNat))), (0, .inr (some 0)), (1, .inl s)], [.inr (some (19 + s.toNat)), .inr (some 1), .inr (some 1)], shW, N, 0, 0)) rfl ?_
  refine mm_ca rfl ⟨⟨_, sg_o (n := s.toNat) (by omega)⟩, rfl, Nat.le_of_ble_eq_true rfl, Nat.le_of_ble_eq_true rfl⟩ (d' := 1) (by decide) (c_S_kindNumber N (s.toNat) (by omega)) ?_
  rintro _ _ _ ⟨rfl, rfl, rfl⟩
  refine mm_go 0 (Y := (24, [(3, .inl (r_S_nextStep N (s.toNat))), (2, .inr (some (19 + s.toNat))), (0, .inr (some 0)), (1, .inl s)], [.inl (N (19 + (s.toNat)) 0), .inr (some 1), .inr (some 1)], shW, N, 0, 0)) rfl ?_
  refine mm_go 1 (Y := (25, [(3, .inl (r_S_nextStep N (s.toNat))), (2, .inr (some (19 + s.toNat))), (0, .inr (some 0)), (1, .inl s)], [.inl (r_S_nextStep N (s.toNat)), .inl (N (19 + (s.toNat)) 0), .inr (some 1), .inr (some 1)], shW, N, 0, 0)) rfl ?_
  refine mm_ca rfl ⟨⟨_, rfl⟩, rfl, Nat.le_of_ble_eq_true rfl, Nat.le_of_ble_eq_true rfl⟩ (d' := 1) (by decide) (c_K_slot N (N (19 + (s.toNat)) 0) (r_S_nextStep N (s.toNat)) ⟨by omega, by omega⟩ ⟨by omega, by omega⟩) ?_
  rintro _ _ _ ⟨rfl, rfl, rfl⟩
  refine mm_go 0 (Y := (28, [(3, .inl (r_S_nextStep N (s.toNat))), (2, .inr (some (19 + s.toNat))), (0, .inr (some 0)), (1, .inl s)], [.inl ((4 * (N (19 + (s.toNat)) 0)) + (r_S_nextStep N (s.toNat))), .inr (some 1)], shW, N, 0, 0)) rfl ?_
  refine mm_ca rfl ⟨⟨_, rfl⟩, rfl, Nat.le_of_ble_eq_true rfl, Nat.le_of_ble_eq_true rfl⟩ (d' := 1) (by decide) (c_K_nodeAt N ((4 * (N (19 + (s.toNat)) 0)) + (r_S_nextStep N (s.toNat))) ⟨by omega, by omega⟩) ?_
  rintro _ _ _ ⟨rfl, rfl, rfl⟩
  refine mm_go 0 (Y := (31, [(3, .inl (r_S_nextStep N (s.toNat))), (2, .inr (some (19 + s.toNat))), (0, .inr (some 0)), (1, .inl s)], [.inl (r_K_nodeAt N ((4 * (N (19 + (s.toNat)) 0)) + (r_S_nextStep N (s.toNat))))], shW, N, 0, 0)) rfl ?_
  refine mm_go 1 (Y := (33, [(4, .inl (r_K_nodeAt N ((4 * (N (19 + (s.toNat)) 0)) + (r_S_nextStep N (s.toNat))))), (3, .inl (r_S_nextStep N (s.toNat))), (2, .inr (some (19 + s.toNat))), (0, .inr (some 0)), (1, .inl s)], [], shW, N, 0, 0)) rfl ?_
  have k2 := nd_01 N ((4 * (N (19 + s.toNat) 0)) + (r_S_nextStep N s.toNat))
  refine mm_go 3 (Y := (38, [(4, .inl (r_K_nodeAt N ((4 * (N (19 + (s.toNat)) 0)) + (r_S_nextStep N (s.toNat))))), (3, .inl (r_S_nextStep N (s.toNat))), (2, .inr (some (19 + s.toNat))), (0, .inr (some 0)), (1, .inl s)], [.inl (mm_wr (1000 * s))], shW, N, 0, 0)) rfl ?_
  rw [mm_wr_id (z := 1000 * s) (by omega) (by omega)]
  refine mm_go 3 (Y := (42, [(4, .inl (r_K_nodeAt N ((4 * (N (19 + (s.toNat)) 0)) + (r_S_nextStep N (s.toNat))))), (3, .inl (r_S_nextStep N (s.toNat))), (2, .inr (some (19 + s.toNat))), (0, .inr (some 0)), (1, .inl s)], [.inl (mm_wr (100 * (r_S_nextStep N (s.toNat)))), .inl (1000 * s)], shW, N, 0, 0)) rfl ?_
  rw [mm_wr_id (z := 100 * (r_S_nextStep N (s.toNat))) (by omega) (by omega)]
  refine mm_go 1 (Y := (43, [(4, .inl (r_K_nodeAt N ((4 * (N (19 + (s.toNat)) 0)) + (r_S_nextStep N (s.toNat))))), (3, .inl (r_S_nextStep N (s.toNat))), (2, .inr (some (19 + s.toNat))), (0, .inr (some 0)), (1, .inl s)], [.inl (mm_wr ((1000 * s) + (100 * (r_S_nextStep N (s.toNat)))))], shW, N, 0, 0)) rfl ?_
  rw [mm_wr_id (z := (1000 * s) + (100 * (r_S_nextStep N (s.toNat)))) (by omega) (by omega)]
  refine mm_go 3 (Y := (47, [(4, .inl (r_K_nodeAt N ((4 * (N (19 + (s.toNat)) 0)) + (r_S_nextStep N (s.toNat))))), (3, .inl (r_S_nextStep N (s.toNat))), (2, .inr (some (19 + s.toNat))), (0, .inr (some 0)), (1, .inl s)], [.inl (mm_wr (2 * (r_K_nodeAt N ((4 * (N (19 + (s.toNat)) 0)) + (r_S_nextStep N (s.toNat)))))), .inl ((1000 * s) + (100 * (r_S_nextStep N (s.toNat))))], shW, N, 0, 0)) rfl ?_
  rw [mm_wr_id (z := 2 * (r_K_nodeAt N ((4 * (N (19 + (s.toNat)) 0)) + (r_S_nextStep N (s.toNat))))) (by omega) (by omega)]
  refine mm_go 1 (Y := (48, [(4, .inl (r_K_nodeAt N ((4 * (N (19 + (s.toNat)) 0)) + (r_S_nextStep N (s.toNat))))), (3, .inl (r_S_nextStep N (s.toNat))), (2, .inr (some (19 + s.toNat))), (0, .inr (some 0)), (1, .inl s)], [.inl (mm_wr (((1000 * s) + (100 * (r_S_nextStep N (s.toNat)))) + (2 * (r_K_nodeAt N ((4 * (N (19 + (s.toNat)) 0)) + (r_S_nextStep N (s.toNat)))))))], shW, N, 0, 0)) rfl ?_
  rw [mm_wr_id (z := ((1000 * s) + (100 * (r_S_nextStep N (s.toNat)))) + (2 * (r_K_nodeAt N ((4 * (N (19 + (s.toNat)) 0)) + (r_S_nextStep N (s.toNat)))))) (by omega) (by omega)]
  refine mm_go 1 (Y := (49, [(4, .inl (r_K_nodeAt N ((4 * (N (19 + (s.toNat)) 0)) + (r_S_nextStep N (s.toNat))))), (3, .inl (r_S_nextStep N (s.toNat))), (2, .inr (some (19 + s.toNat))), (0, .inr (some 0)), (1, .inl s)], [.inr (some (19 + s.toNat)), .inl (((1000 * s) + (100 * (r_S_nextStep N (s.toNat)))) + (2 * (r_K_nodeAt N ((4 * (N (19 + (s.toNat)) 0)) + (r_S_nextStep N (s.toNat))))))], shW, N, 0, 0)) rfl ?_
  refine mm_ca rfl ⟨⟨_, sg_o (n := s.toNat) (by omega)⟩, rfl, Nat.le_of_ble_eq_true rfl, Nat.le_of_ble_eq_true rfl⟩ (d' := 1) (by decide) (c_S_goesBack N (s.toNat) (by omega) g.2.2.1) ?_
  rintro _ _ _ ⟨rfl, rfl, rfl⟩
  refine mm_go 0 (Y := (52, [(4, .inl (r_K_nodeAt N ((4 * (N (19 + (s.toNat)) 0)) + (r_S_nextStep N (s.toNat))))), (3, .inl (r_S_nextStep N (s.toNat))), (2, .inr (some (19 + s.toNat))), (0, .inr (some 0)), (1, .inl s)], [.inl (N (19 + (s.toNat)) 3), .inl (((1000 * s) + (100 * (r_S_nextStep N (s.toNat)))) + (2 * (r_K_nodeAt N ((4 * (N (19 + (s.toNat)) 0)) + (r_S_nextStep N (s.toNat))))))], shW, N, 0, 0)) rfl ?_
  refine mm_go 1 (Y := (if (N (19 + (s.toNat)) 3) = 0 then 59 else 55, [(4, .inl (r_K_nodeAt N ((4 * (N (19 + (s.toNat)) 0)) + (r_S_nextStep N (s.toNat))))), (3, .inl (r_S_nextStep N (s.toNat))), (2, .inr (some (19 + s.toNat))), (0, .inr (some 0)), (1, .inl s)], [.inl (((1000 * s) + (100 * (r_S_nextStep N (s.toNat)))) + (2 * (r_K_nodeAt N ((4 * (N (19 + (s.toNat)) 0)) + (r_S_nextStep N (s.toNat))))))], shW, N, 0, 0)) rfl ?_
  refine mm_if (fun h1 => ?_) (fun h1 => ?_)
  · skip
    refine mm_go 2 (Y := (61, [(4, .inl (r_K_nodeAt N ((4 * (N (19 + (s.toNat)) 0)) + (r_S_nextStep N (s.toNat))))), (3, .inl (r_S_nextStep N (s.toNat))), (2, .inr (some (19 + s.toNat))), (0, .inr (some 0)), (1, .inl s)], [.inl (mm_wr ((((1000 * s) + (100 * (r_S_nextStep N (s.toNat)))) + (2 * (r_K_nodeAt N ((4 * (N (19 + (s.toNat)) 0)) + (r_S_nextStep N (s.toNat)))))) + 0))], shW, N, 0, 0)) rfl ?_
    rw [mm_wr_id (z := (((1000 * s) + (100 * (r_S_nextStep N (s.toNat)))) + (2 * (r_K_nodeAt N ((4 * (N (19 + (s.toNat)) 0)) + (r_S_nextStep N (s.toNat)))))) + 0) (by omega) (by omega)]
    exact mm_rt rfl ⟨rfl, Or.inl rfl⟩ ⟨by unfold r_D_nextRequest; rw [if_pos h1], rfl, rfl⟩
  · skip
    refine mm_go 3 (Y := (61, [(4, .inl (r_K_nodeAt N ((4 * (N (19 + (s.toNat)) 0)) + (r_S_nextStep N (s.toNat))))), (3, .inl (r_S_nextStep N (s.toNat))), (2, .inr (some (19 + s.toNat))), (0, .inr (some 0)), (1, .inl s)], [.inl (mm_wr ((((1000 * s) + (100 * (r_S_nextStep N (s.toNat)))) + (2 * (r_K_nodeAt N ((4 * (N (19 + (s.toNat)) 0)) + (r_S_nextStep N (s.toNat)))))) + 1))], shW, N, 0, 0)) rfl ?_
    rw [mm_wr_id (z := (((1000 * s) + (100 * (r_S_nextStep N (s.toNat)))) + (2 * (r_K_nodeAt N ((4 * (N (19 + (s.toNat)) 0)) + (r_S_nextStep N (s.toNat)))))) + 1) (by omega) (by omega)]
    exact mm_rt rfl ⟨rfl, Or.inl rfl⟩ ⟨by unfold r_D_nextRequest; rw [if_neg h1], rfl, rfl⟩
def r_D_sendIfWaiting (N : mm_N) (s : Int) : Int := if (r_D_isWaiting N s) = 0 then 0 else 1
def n_D_sendIfWaiting (N : mm_N) (s : Int) : mm_N := if (r_D_isWaiting N s) = 0 then N else (n_L_put N (r_D_nextRequest N s))
theorem c_D_sendIfWaiting {L : Nat} {xs : Nat → Int} (N : mm_N) (s : Int) (hs : 0 ≤ s ∧ s < 12) (hS : cS N) (hK : cK N) (hc : 0 ≤ N 14 1 ∧ N 14 1 < 25) : mm_Cl mm_pf mm_bd L xs mm_pr 4 26 [.inr (some 0), .inl s] shW N (fun r sh N' => r = some (.inl (r_D_sendIfWaiting N s)) ∧ sh = shW ∧ n_D_sendIfWaiting N s = N') := by
  refine mm_start p_D_sendIfWaiting ?_
  refine mm_go 2 (Y := (2, [(0, .inr (some 0)), (1, .inl s)], [.inl s, .inr (some 0)], shW, N, 0, 0)) rfl ?_
  refine mm_ca rfl ⟨⟨_, rfl⟩, rfl, Nat.le_of_ble_eq_true rfl, Nat.le_of_ble_eq_true rfl⟩ (d' := 3) (by decide) (c_D_isWaiting N s ⟨by omega, by omega⟩ (by assumption)) ?_
  rintro _ _ _ ⟨rfl, rfl, rfl⟩
  refine mm_go 0 (Y := (5, [(0, .inr (some 0)), (1, .inl s)], [.inl (r_D_isWaiting N s)], shW, N, 0, 0)) rfl ?_
  refine mm_go 1 (Y := (if (r_D_isWaiting N s) = 0 then 8 else 10, [(0, .inr (some 0)), (1, .inl s)], [], shW, N, 0, 0)) rfl ?_
  refine mm_if (fun h1 => ?_) (fun h1 => ?_)
  · skip
    refine mm_go 1 (Y := (9, [(0, .inr (some 0)), (1, .inl s)], [.inl 0], shW, N, 0, 0)) rfl ?_
    exact mm_rt rfl ⟨rfl, Or.inr ⟨rfl, (Or.inl rfl)⟩⟩ ⟨by unfold r_D_sendIfWaiting; rw [if_pos h1], rfl, by unfold n_D_sendIfWaiting; rw [if_pos h1]⟩
  · skip
    have hn := wt_step hs hK hS h1
    refine mm_go 4 (Y := (16, [(0, .inr (some 0)), (1, .inl s)], [.inl s, .inr (some 0), .inr (some 14)], shW, N, 0, 0)) rfl ?_
    refine mm_ca rfl ⟨⟨_, rfl⟩, rfl, Nat.le_of_ble_eq_true rfl, Nat.le_of_ble_eq_true rfl⟩ (d' := 2) (by decide) (c_D_nextRequest N s ⟨by omega, by omega⟩ (by assumption) (by assumption) (by assumption)) ?_
    rintro _ _ _ ⟨rfl, rfl, rfl⟩
    refine mm_go 0 (Y := (19, [(0, .inr (some 0)), (1, .inl s)], [.inl (r_D_nextRequest N s), .inr (some 14)], shW, N, 0, 0)) rfl ?_
    refine mm_ca rfl ⟨⟨_, rfl⟩, rfl, Nat.le_of_ble_eq_true rfl, Nat.le_of_ble_eq_true rfl⟩ (d' := 1) (by decide) (c_L_put N (r_D_nextRequest N s) ⟨by first | omega | (simp [mm_f2_at, mm_f0_at]; omega), by first | omega | (simp [mm_f2_at, mm_f0_at]; omega)⟩) ?_
    rintro _ _ _ ⟨rfl, rfl, rfl⟩
    refine mm_go 0 (Y := (22, [(0, .inr (some 0)), (1, .inl s)], [], shW, (n_L_put N (r_D_nextRequest N s)), 0, 0)) rfl ?_
    refine mm_go 1 (Y := (23, [(0, .inr (some 0)), (1, .inl s)], [.inl 1], shW, (n_L_put N (r_D_nextRequest N s)), 0, 0)) rfl ?_
    exact mm_rt rfl ⟨rfl, Or.inr ⟨rfl, (Or.inr rfl)⟩⟩ ⟨by unfold r_D_sendIfWaiting; rw [if_neg h1], rfl, by unfold n_D_sendIfWaiting; rw [if_neg h1]⟩
def n_D_readRecord (N : mm_N) (p : Int) : mm_N := if (N 17 ((3 * p).toNat)) = 1 then (n_S_read (mm_f2 N 0 6 ((N 0 6) + 1)) ((N 17 (((3 * p) + 1).toNat)).toNat) (N 17 ((3 * p).toNat)) (N 17 (((3 * p) + 2).toNat)) p) else (n_S_read N ((N 17 (((3 * p) + 1).toNat)).toNat) (N 17 ((3 * p).toNat)) (N 17 (((3 * p) + 2).toNat)) p)
theorem c_D_readRecord {L : Nat} {xs : Nat → Int} (N : mm_N) (p : Int) (hp : 0 ≤ p ∧ p < 96) (hg : 0 ≤ N 17 ((3 * p) + 1).toNat ∧ N 17 ((3 * p) + 1).toNat < 12) (hS : cS N) (hK : cK N) (hc : 0 ≤ N 0 6 ∧ N 0 6 < 1000) : mm_Cl mm_pf mm_bd L xs mm_pr 2 17 [.inr (some 0), .inl p] shW N (fun r sh N' => r = none ∧ sh = shW ∧ n_D_readRecord N p = N') := by
  refine mm_start p_D_readRecord ?_
  have g := hS (N 17 ((3 * p) + 1).toNat).toNat (by omega)
  have k := hK.1 (N (19 + (N 17 ((3 * p) + 1).toNat).toNat) 0).toNat (by omega)
  refine mm_go 3 (Y := (5, [(0, .inr (some 0)), (1, .inl p)], [.inl p, .inr (some 16)], shW, N, 0, 0)) rfl ?_
  refine mm_ca rfl ⟨⟨_, rfl⟩, rfl, Nat.le_of_ble_eq_true rfl, Nat.le_of_ble_eq_true rfl⟩ (d' := 1) (by decide) (c_G_typeOfRecord N p ⟨by omega, by omega⟩) ?_
  rintro _ _ _ ⟨rfl, rfl, rfl⟩
  refine mm_go 0 (Y := (8, [(0, .inr (some 0)), (1, .inl p)], [.inl (N 17 ((3 * p).toNat))], shW, N, 0, 0)) rfl ?_
  refine mm_go 4 (Y := (if (N 17 ((3 * p).toNat)) = 1 then 14 else 24, [(2, .inl (N 17 ((3 * p).toNat))), (0, .inr (some 0)), (1, .inl p)], [], shW, N, 0, 0)) rfl ?_
  refine mm_if (fun h1 => ?_) (fun h1 => ?_)
  · skip
    refine mm_go 5 (Y := (21, [(2, .inl (N 17 ((3 * p).toNat))), (0, .inr (some 0)), (1, .inl p)], [.inl (mm_wr ((N 0 6) + 1)), .inr (some 0)], shW, N, 0, 0)) rfl ?_
    rw [mm_wr_id (z := (N 0 6) + 1) (by omega) (by omega)]
    refine mm_go 6 (Y := (33, [(2, .inl (N 17 ((3 * p).toNat))), (0, .inr (some 0)), (1, .inl p)], [.inl p, .inr (some 16), .inr (some 18)], shW, (mm_f2 N 0 6 ((N 0 6) + 1)), 0, 0)) rfl ?_
    refine mm_ca rfl ⟨⟨_, rfl⟩, rfl, Nat.le_of_ble_eq_true rfl, Nat.le_of_ble_eq_true rfl⟩ (d' := 1) (by decide) (c_G_sagaOfRecord (mm_f2 N 0 6 ((N 0 6) + 1)) p ⟨by omega, by omega⟩) ?_
    rintro _ _ _ ⟨rfl, rfl, rfl⟩
    refine mm_go 0 (Y := (36, [(2, .inl (N 17 ((3 * p).toNat))), (0, .inr (some 0)), (1, .inl p)], [.inl (N 17 (((3 * p) + 1).toNat)), .inr (some 18)], shW, (mm_f2 N 0 6 ((N 0 6) + 1)), 0, 0)) rfl ?_
    refine mm_al rfl rfl (by decide) ⟨by omega, by omega⟩ (sg_at (by omega) (by omega)) (Y := (37, [(2, .inl (N 17 ((3 * p).toNat))), (0, .inr (some 0)), (1, .inl p)], [.inr (some (19 + (N 17 (((3 * p) + 1).toNat)).toNat))], shW, (mm_f2 N 0 6 ((N 0 6) + 1)), 0, 0)) rfl ?_
    refine mm_go 4 (Y := (43, [(2, .inl (N 17 ((3 * p).toNat))), (0, .inr (some 0)), (1, .inl p)], [.inl p, .inr (some 16), .inl (N 17 ((3 * p).toNat)), .inr (some (19 + (N 17 (((3 * p) + 1).toNat)).toNat))], shW, (mm_f2 N 0 6 ((N 0 6) + 1)), 0, 0)) rfl ?_
    refine mm_ca rfl ⟨⟨_, rfl⟩, rfl, Nat.le_of_ble_eq_true rfl, Nat.le_of_ble_eq_true rfl⟩ (d' := 1) (by decide) (c_G_valueOfRecord (mm_f2 N 0 6 ((N 0 6) + 1)) p ⟨by omega, by omega⟩) ?_
    rintro _ _ _ ⟨rfl, rfl, rfl⟩
    refine mm_go 0 (Y := (46, [(2, .inl (N 17 ((3 * p).toNat))), (0, .inr (some 0)), (1, .inl p)], [.inl (N 17 (((3 * p) + 2).toNat)), .inl (N 17 ((3 * p).toNat)), .inr (some (19 + (N 17 (((3 * p) + 1).toNat)).toNat))], shW, (mm_f2 N 0 6 ((N 0 6) + 1)), 0, 0)) rfl ?_
    refine mm_go 1 (Y := (47, [(2, .inl (N 17 ((3 * p).toNat))), (0, .inr (some 0)), (1, .inl p)], [.inl p, .inl (N 17 (((3 * p) + 2).toNat)), .inl (N 17 ((3 * p).toNat)), .inr (some (19 + (N 17 (((3 * p) + 1).toNat)).toNat))], shW, (mm_f2 N 0 6 ((N 0 6) + 1)), 0, 0)) rfl ?_
    refine mm_ca rfl ⟨⟨_, sg_o (n := (N 17 (((3 * p) + 1).toNat)).toNat) (by omega)⟩, rfl, Nat.le_of_ble_eq_true rfl, Nat.le_of_ble_eq_true rfl⟩ (d' := 1) (by decide) (c_S_read (mm_f2 N 0 6 ((N 0 6) + 1)) ((N 17 (((3 * p) + 1).toNat)).toNat) (N 17 ((3 * p).toNat)) (N 17 (((3 * p) + 2).toNat)) p (by omega) ⟨by first | omega | (simp [mm_f2_at, mm_f0_at]; omega), by first | omega | (simp [mm_f2_at, mm_f0_at]; omega)⟩ ⟨by first | omega | (simp [mm_f2_at, mm_f0_at]; omega), by first | omega | (simp [mm_f2_at, mm_f0_at]; omega)⟩) ?_
    rintro _ _ _ ⟨rfl, rfl, rfl⟩
    refine mm_go 0 (Y := (50, [(2, .inl (N 17 ((3 * p).toNat))), (0, .inr (some 0)), (1, .inl p)], [], shW, (n_S_read (mm_f2 N 0 6 ((N 0 6) + 1)) ((N 17 (((3 * p) + 1).toNat)).toNat) (N 17 ((3 * p).toNat)) (N 17 (((3 * p) + 2).toNat)) p), 0, 0)) rfl ?_
    exact mm_rt rfl rfl ⟨rfl, rfl, by unfold n_D_readRecord; rw [if_pos h1]⟩
  · skip
    refine mm_go 5 (Y := (33, [(2, .inl (N 17 ((3 * p).toNat))), (0, .inr (some 0)), (1, .inl p)], [.inl p, .inr (some 16), .inr (some 18)], shW, N, 0, 0)) rfl ?_
    refine mm_ca rfl ⟨⟨_, rfl⟩, rfl, Nat.le_of_ble_eq_true rfl, Nat.le_of_ble_eq_true rfl⟩ (d' := 1) (by decide) (c_G_sagaOfRecord N p ⟨by omega, by omega⟩) ?_
    rintro _ _ _ ⟨rfl, rfl, rfl⟩
    refine mm_go 0 (Y := (36, [(2, .inl (N 17 ((3 * p).toNat))), (0, .inr (some 0)), (1, .inl p)], [.inl (N 17 (((3 * p) + 1).toNat)), .inr (some 18)], shW, N, 0, 0)) rfl ?_
    refine mm_al rfl rfl (by decide) ⟨by omega, by omega⟩ (sg_at (by omega) (by omega)) (Y := (37, [(2, .inl (N 17 ((3 * p).toNat))), (0, .inr (some 0)), (1, .inl p)], [.inr (some (19 + (N 17 (((3 * p) + 1).toNat)).toNat))], shW, N, 0, 0)) rfl ?_
    refine mm_go 4 (Y := (43, [(2, .inl (N 17 ((3 * p).toNat))), (0, .inr (some 0)), (1, .inl p)], [.inl p, .inr (some 16), .inl (N 17 ((3 * p).toNat)), .inr (some (19 + (N 17 (((3 * p) + 1).toNat)).toNat))], shW, N, 0, 0)) rfl ?_
    refine mm_ca rfl ⟨⟨_, rfl⟩, rfl, Nat.le_of_ble_eq_true rfl, Nat.le_of_ble_eq_true rfl⟩ (d' := 1) (by decide) (c_G_valueOfRecord N p ⟨by omega, by omega⟩) ?_
    rintro _ _ _ ⟨rfl, rfl, rfl⟩
    refine mm_go 0 (Y := (46, [(2, .inl (N 17 ((3 * p).toNat))), (0, .inr (some 0)), (1, .inl p)], [.inl (N 17 (((3 * p) + 2).toNat)), .inl (N 17 ((3 * p).toNat)), .inr (some (19 + (N 17 (((3 * p) + 1).toNat)).toNat))], shW, N, 0, 0)) rfl ?_
    refine mm_go 1 (Y := (47, [(2, .inl (N 17 ((3 * p).toNat))), (0, .inr (some 0)), (1, .inl p)], [.inl p, .inl (N 17 (((3 * p) + 2).toNat)), .inl (N 17 ((3 * p).toNat)), .inr (some (19 + (N 17 (((3 * p) + 1).toNat)).toNat))], shW, N, 0, 0)) rfl ?_
    refine mm_ca rfl ⟨⟨_, sg_o (n := (N 17 (((3 * p) + 1).toNat)).toNat) (by omega)⟩, rfl, Nat.le_of_ble_eq_true rfl, Nat.le_of_ble_eq_true rfl⟩ (d' := 1) (by decide) (c_S_read N ((N 17 (((3 * p) + 1).toNat)).toNat) (N 17 ((3 * p).toNat)) (N 17 (((3 * p) + 2).toNat)) p (by omega) ⟨by first | omega | (simp [mm_f2_at, mm_f0_at]; omega), by first | omega | (simp [mm_f2_at, mm_f0_at]; omega)⟩ ⟨by first | omega | (simp [mm_f2_at, mm_f0_at]; omega), by first | omega | (simp [mm_f2_at, mm_f0_at]; omega)⟩) ?_
    rintro _ _ _ ⟨rfl, rfl, rfl⟩
    refine mm_go 0 (Y := (50, [(2, .inl (N 17 ((3 * p).toNat))), (0, .inr (some 0)), (1, .inl p)], [], shW, (n_S_read N ((N 17 (((3 * p) + 1).toNat)).toNat) (N 17 ((3 * p).toNat)) (N 17 (((3 * p) + 2).toNat)) p), 0, 0)) rfl ?_
    exact mm_rt rfl rfl ⟨rfl, rfl, by unfold n_D_readRecord; rw [if_neg h1]⟩
