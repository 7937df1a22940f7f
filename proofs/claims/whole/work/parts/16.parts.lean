/-! services, line, log, sagas -/
theorem c_V_stock {L : Nat} {xs : Nat → Int} (N : mm_N) (n : Nat) (t : Int) (v : Int) (hn : n < 2) (ht : 0 ≤ t ∧ t < 8) : mm_Cl mm_pf mm_bd L xs mm_pr 1 12 [.inr (some (7 + 3 * n)), .inl t, .inl v] shW N (fun r sh N' => r = none ∧ sh = shW ∧ (mm_f2 N (8 + 3 * n) (t.toNat) v) = N') := by
  refine mm_start p_V_stock ?_
  refine mm_go 1 (Y := (1, [(0, .inr (some (7 + 3 * n))), (1, .inl t), (2, .inl v)], [.inr (some (7 + 3 * n))], shW, N, 0, 0)) rfl ?_
  refine mm_gr rfl (sv_o hn) rfl (Y := (4, [(0, .inr (some (7 + 3 * n))), (1, .inl t), (2, .inl v)], [.inr (some (8 + 3 * n))], shW, N, 0, 0)) rfl ?_
  refine mm_go 2 (Y := (6, [(0, .inr (some (7 + 3 * n))), (1, .inl t), (2, .inl v)], [.inl v, .inl t, .inr (some (8 + 3 * n))], shW, N, 0, 0)) rfl ?_
  refine mm_is rfl (sv_s hn) ⟨by omega, by omega⟩ (Y := (7, [(0, .inr (some (7 + 3 * n))), (1, .inl t), (2, .inl v)], [], shW, (mm_f2 N (8 + 3 * n) (t.toNat) v), 0, 0)) rfl ?_
  exact mm_rt rfl rfl ⟨rfl, rfl, rfl⟩
theorem c_V_stockOf {L : Nat} {xs : Nat → Int} (N : mm_N) (n : Nat) (t : Int) (hn : n < 2) (ht : 0 ≤ t ∧ t < 8) : mm_Cl mm_pf mm_bd L xs mm_pr 1 67 [.inr (some (7 + 3 * n)), .inl t] shW N (fun r sh N' => r = some (.inl (N (8 + 3 * n) (t.toNat))) ∧ sh = shW ∧ N = N') := by
  refine mm_start p_V_stockOf ?_
  refine mm_go 1 (Y := (1, [(0, .inr (some (7 + 3 * n))), (1, .inl t)], [.inr (some (7 + 3 * n))], shW, N, 0, 0)) rfl ?_
  refine mm_gr rfl (sv_o hn) rfl (Y := (4, [(0, .inr (some (7 + 3 * n))), (1, .inl t)], [.inr (some (8 + 3 * n))], shW, N, 0, 0)) rfl ?_
  refine mm_go 1 (Y := (5, [(0, .inr (some (7 + 3 * n))), (1, .inl t)], [.inl t, .inr (some (8 + 3 * n))], shW, N, 0, 0)) rfl ?_
  refine mm_il rfl (sv_s hn) ⟨by omega, by omega⟩ (Y := (6, [(0, .inr (some (7 + 3 * n))), (1, .inl t)], [.inl (N (8 + 3 * n) (t.toNat))], shW, N, 0, 0)) rfl ?_
  exact mm_rt rfl ⟨rfl, Or.inl rfl⟩ ⟨rfl, rfl, rfl⟩
theorem c_V_answerCount {L : Nat} {xs : Nat → Int} (N : mm_N) (n : Nat) (hn : n < 2) : mm_Cl mm_pf mm_bd L xs mm_pr 1 77 [.inr (some (7 + 3 * n))] shW N (fun r sh N' => r = some (.inl (N (7 + 3 * n) 2)) ∧ sh = shW ∧ N = N') := by
  refine mm_start p_V_answerCount ?_
  refine mm_go 1 (Y := (1, [(0, .inr (some (7 + 3 * n)))], [.inr (some (7 + 3 * n))], shW, N, 0, 0)) rfl ?_
  refine mm_gf rfl (sv_o hn) rfl (Y := (4, [(0, .inr (some (7 + 3 * n)))], [.inl (N (7 + 3 * n) 2)], shW, N, 0, 0)) rfl ?_
  exact mm_rt rfl ⟨rfl, Or.inl rfl⟩ ⟨rfl, rfl, rfl⟩
theorem c_V_answerTo {L : Nat} {xs : Nat → Int} (N : mm_N) (n : Nat) (m : Int) (hn : n < 2) (hm : 0 ≤ m ∧ m < 96) : mm_Cl mm_pf mm_bd L xs mm_pr 1 47 [.inr (some (7 + 3 * n)), .inl m] shW N (fun r sh N' => r = some (.inl (N (9 + 3 * n) (m.toNat))) ∧ sh = shW ∧ N = N') := by
  refine mm_start p_V_answerTo ?_
  refine mm_go 1 (Y := (1, [(0, .inr (some (7 + 3 * n))), (1, .inl m)], [.inr (some (7 + 3 * n))], shW, N, 0, 0)) rfl ?_
  refine mm_gr rfl (sv_o hn) rfl (Y := (4, [(0, .inr (some (7 + 3 * n))), (1, .inl m)], [.inr (some (9 + 3 * n))], shW, N, 0, 0)) rfl ?_
  refine mm_go 1 (Y := (5, [(0, .inr (some (7 + 3 * n))), (1, .inl m)], [.inl m, .inr (some (9 + 3 * n))], shW, N, 0, 0)) rfl ?_
  refine mm_il rfl (sv_a hn) ⟨by omega, by omega⟩ (Y := (6, [(0, .inr (some (7 + 3 * n))), (1, .inl m)], [.inl (N (9 + 3 * n) (m.toNat))], shW, N, 0, 0)) rfl ?_
  exact mm_rt rfl ⟨rfl, Or.inl rfl⟩ ⟨rfl, rfl, rfl⟩
theorem c_V_keepAnswer {L : Nat} {xs : Nat → Int} (N : mm_N) (n : Nat) (m : Int) (v : Int) (hn : n < 2) (hm : 0 ≤ m ∧ m < 96) (hc : 0 ≤ N (7 + 3 * n) 2 ∧ N (7 + 3 * n) 2 < 1000) : mm_Cl mm_pf mm_bd L xs mm_pr 1 53 [.inr (some (7 + 3 * n)), .inl m, .inl v] shW N (fun r sh N' => r = none ∧ sh = shW ∧ (mm_f2 (mm_f2 N (9 + 3 * n) (m.toNat) v) (7 + 3 * n) 2 (((mm_f2 N (9 + 3 * n) (m.toNat) v) (7 + 3 * n) 2) + 1)) = N') := by
  refine mm_start p_V_keepAnswer ?_
  refine mm_go 1 (Y := (1, [(0, .inr (some (7 + 3 * n))), (1, .inl m), (2, .inl v)], [.inr (some (7 + 3 * n))], shW, N, 0, 0)) rfl ?_
  refine mm_gr rfl (sv_o hn) rfl (Y := (4, [(0, .inr (some (7 + 3 * n))), (1, .inl m), (2, .inl v)], [.inr (some (9 + 3 * n))], shW, N, 0, 0)) rfl ?_
  refine mm_go 2 (Y := (6, [(0, .inr (some (7 + 3 * n))), (1, .inl m), (2, .inl v)], [.inl v, .inl m, .inr (some (9 + 3 * n))], shW, N, 0, 0)) rfl ?_
  refine mm_is rfl (sv_a hn) ⟨by omega, by omega⟩ (Y := (7, [(0, .inr (some (7 + 3 * n))), (1, .inl m), (2, .inl v)], [], shW, (mm_f2 N (9 + 3 * n) (m.toNat) v), 0, 0)) rfl ?_
  refine mm_go 2 (Y := (9, [(0, .inr (some (7 + 3 * n))), (1, .inl m), (2, .inl v)], [.inr (some (7 + 3 * n)), .inr (some (7 + 3 * n))], shW, (mm_f2 N (9 + 3 * n) (m.toNat) v), 0, 0)) rfl ?_
  refine mm_gf rfl (sv_o hn) rfl (Y := (12, [(0, .inr (some (7 + 3 * n))), (1, .inl m), (2, .inl v)], [.inl ((mm_f2 N (9 + 3 * n) (m.toNat) v) (7 + 3 * n) 2), .inr (some (7 + 3 * n))], shW, (mm_f2 N (9 + 3 * n) (m.toNat) v), 0, 0)) rfl ?_
  refine mm_go 1 (Y := (13, [(0, .inr (some (7 + 3 * n))), (1, .inl m), (2, .inl v)], [.inl 1, .inl ((mm_f2 N (9 + 3 * n) (m.toNat) v) (7 + 3 * n) 2), .inr (some (7 + 3 * n))], shW, (mm_f2 N (9 + 3 * n) (m.toNat) v), 0, 0)) rfl ?_
  have hz : mm_f2 N (9 + 3 * n) m.toNat v (7 + 3 * n) 2 = N (7 + 3 * n) 2 := by rw [mm_f2_at, if_neg (by omega)]
  refine mm_go 1 (Y := (14, [(0, .inr (some (7 + 3 * n))), (1, .inl m), (2, .inl v)], [.inl (mm_wr (((mm_f2 N (9 + 3 * n) (m.toNat) v) (7 + 3 * n) 2) + 1)), .inr (some (7 + 3 * n))], shW, (mm_f2 N (9 + 3 * n) (m.toNat) v), 0, 0)) rfl ?_
  rw [mm_wr_id (z := ((mm_f2 N (9 + 3 * n) (m.toNat) v) (7 + 3 * n) 2) + 1) (by omega) (by omega)]
  refine mm_pt0 rfl (sv_o hn) rfl (Y := (17, [(0, .inr (some (7 + 3 * n))), (1, .inl m), (2, .inl v)], [], shW, (mm_f2 (mm_f2 N (9 + 3 * n) (m.toNat) v) (7 + 3 * n) 2 (((mm_f2 N (9 + 3 * n) (m.toNat) v) (7 + 3 * n) 2) + 1)), 0, 0)) rfl ?_
  exact mm_rt rfl rfl ⟨rfl, rfl, rfl⟩
def r_V_attempt (N : mm_N) (n : Nat) (p : Int) (u : Int) : Int := if u = 0 then (if (r_K_isAllowed N p (N (8 + 3 * n) ((N 4 (p.toNat)).toNat))) = 0 then 1 else 2) else 2
def n_V_attempt (N : mm_N) (n : Nat) (p : Int) (u : Int) : mm_N := if u = 0 then (if (r_K_isAllowed N p (N (8 + 3 * n) ((N 4 (p.toNat)).toNat))) = 0 then N else (mm_f2 N (8 + 3 * n) ((N 4 (p.toNat)).toNat) (mm_wr ((N (8 + 3 * n) ((N 4 (p.toNat)).toNat)) + (r_K_changeBy N p))))) else (mm_f2 N (8 + 3 * n) ((N 4 (p.toNat)).toNat) (mm_wr ((N (8 + 3 * n) ((N 4 (p.toNat)).toNat)) - (r_K_changeBy N p))))
theorem c_V_attempt {L : Nat} {xs : Nat → Int} (N : mm_N) (n : Nat) (p : Int) (u : Int) (hn : n < 2) (hp : 0 ≤ p ∧ p < 16) (ht : 0 ≤ N 4 p.toNat ∧ N 4 p.toNat < 8) : mm_Cl mm_pf mm_bd L xs mm_pr 2 49 [.inr (some (7 + 3 * n)), .inr (some 1), .inl p, .inl u] shW N (fun r sh N' => r = some (.inl (r_V_attempt N n p u)) ∧ sh = shW ∧ n_V_attempt N n p u = N') := by
  refine mm_start p_V_attempt ?_
  refine mm_go 2 (Y := (2, [(0, .inr (some (7 + 3 * n))), (1, .inr (some 1)), (2, .inl p), (3, .inl u)], [.inl p, .inr (some 1)], shW, N, 0, 0)) rfl ?_
  refine mm_ca rfl ⟨⟨_, rfl⟩, rfl, Nat.le_of_ble_eq_true rfl, Nat.le_of_ble_eq_true rfl⟩ (d' := 1) (by decide) (c_K_thingAt N p ⟨by omega, by omega⟩) ?_
  rintro _ _ _ ⟨rfl, rfl, rfl⟩
  refine mm_go 0 (Y := (5, [(0, .inr (some (7 + 3 * n))), (1, .inr (some 1)), (2, .inl p), (3, .inl u)], [.inl (N 4 (p.toNat))], shW, N, 0, 0)) rfl ?_
  refine mm_go 3 (Y := (if u = 0 then 28 else 11, [(4, .inl (N 4 (p.toNat))), (0, .inr (some (7 + 3 * n))), (1, .inr (some 1)), (2, .inl p), (3, .inl u)], [], shW, N, 0, 0)) rfl ?_
  refine mm_if (fun h1 => ?_) (fun h1 => ?_)
  · skip
    refine mm_go 3 (Y := (31, [(4, .inl (N 4 (p.toNat))), (0, .inr (some (7 + 3 * n))), (1, .inr (some 1)), (2, .inl p), (3, .inl u)], [.inr (some (7 + 3 * n)), .inl p, .inr (some 1)], shW, N, 0, 0)) rfl ?_
    refine mm_gr rfl (sv_o hn) rfl (Y := (34, [(4, .inl (N 4 (p.toNat))), (0, .inr (some (7 + 3 * n))), (1, .inr (some 1)), (2, .inl p), (3, .inl u)], [.inr (some (8 + 3 * n)), .inl p, .inr (some 1)], shW, N, 0, 0)) rfl ?_
    refine mm_go 1 (Y := (36, [(4, .inl (N 4 (p.toNat))), (0, .inr (some (7 + 3 * n))), (1, .inr (some 1)), (2, .inl p), (3, .inl u)], [.inl (N 4 (p.toNat)), .inr (some (8 + 3 * n)), .inl p, .inr (some 1)], shW, N, 0, 0)) rfl ?_
    refine mm_il rfl (sv_s hn) ⟨by omega, by omega⟩ (Y := (37, [(4, .inl (N 4 (p.toNat))), (0, .inr (some (7 + 3 * n))), (1, .inr (some 1)), (2, .inl p), (3, .inl u)], [.inl (N (8 + 3 * n) ((N 4 (p.toNat)).toNat)), .inl p, .inr (some 1)], shW, N, 0, 0)) rfl ?_
    refine mm_ca rfl ⟨⟨_, rfl⟩, rfl, Nat.le_of_ble_eq_true rfl, Nat.le_of_ble_eq_true rfl⟩ (d' := 1) (by decide) (c_K_isAllowed N p (N (8 + 3 * n) ((N 4 (p.toNat)).toNat)) ⟨by omega, by omega⟩) ?_
    rintro _ _ _ ⟨rfl, rfl, rfl⟩
    refine mm_go 0 (Y := (40, [(4, .inl (N 4 (p.toNat))), (0, .inr (some (7 + 3 * n))), (1, .inr (some 1)), (2, .inl p), (3, .inl u)], [.inl (r_K_isAllowed N p (N (8 + 3 * n) ((N 4 (p.toNat)).toNat)))], shW, N, 0, 0)) rfl ?_
    refine mm_go 1 (Y := (if (r_K_isAllowed N p (N (8 + 3 * n) ((N 4 (p.toNat)).toNat))) = 0 then 43 else 45, [(4, .inl (N 4 (p.toNat))), (0, .inr (some (7 + 3 * n))), (1, .inr (some 1)), (2, .inl p), (3, .inl u)], [], shW, N, 0, 0)) rfl ?_
    refine mm_if (fun h2 => ?_) (fun h2 => ?_)
    · skip
      refine mm_go 1 (Y := (44, [(4, .inl (N 4 (p.toNat))), (0, .inr (some (7 + 3 * n))), (1, .inr (some 1)), (2, .inl p), (3, .inl u)], [.inl 1], shW, N, 0, 0)) rfl ?_
      exact mm_rt rfl ⟨rfl, Or.inl rfl⟩ ⟨by unfold r_V_attempt; rw [if_pos h1, if_pos h2], rfl, by unfold n_V_attempt; rw [if_pos h1, if_pos h2]⟩
    · skip
      refine mm_go 1 (Y := (46, [(4, .inl (N 4 (p.toNat))), (0, .inr (some (7 + 3 * n))), (1, .inr (some 1)), (2, .inl p), (3, .inl u)], [.inr (some (7 + 3 * n))], shW, N, 0, 0)) rfl ?_
      refine mm_gr rfl (sv_o hn) rfl (Y := (49, [(4, .inl (N 4 (p.toNat))), (0, .inr (some (7 + 3 * n))), (1, .inr (some 1)), (2, .inl p), (3, .inl u)], [.inr (some (8 + 3 * n))], shW, N, 0, 0)) rfl ?_
      refine mm_go 2 (Y := (52, [(4, .inl (N 4 (p.toNat))), (0, .inr (some (7 + 3 * n))), (1, .inr (some 1)), (2, .inl p), (3, .inl u)], [.inl (N 4 (p.toNat)), .inr (some (8 + 3 * n)), .inl (N 4 (p.toNat)), .inr (some (8 + 3 * n))], shW, N, 0, 0)) rfl ?_
      refine mm_il rfl (sv_s hn) ⟨by omega, by omega⟩ (Y := (53, [(4, .inl (N 4 (p.toNat))), (0, .inr (some (7 + 3 * n))), (1, .inr (some 1)), (2, .inl p), (3, .inl u)], [.inl (N (8 + 3 * n) ((N 4 (p.toNat)).toNat)), .inl (N 4 (p.toNat)), .inr (some (8 + 3 * n))], shW, N, 0, 0)) rfl ?_
      refine mm_go 2 (Y := (55, [(4, .inl (N 4 (p.toNat))), (0, .inr (some (7 + 3 * n))), (1, .inr (some 1)), (2, .inl p), (3, .inl u)], [.inl p, .inr (some 1), .inl (N (8 + 3 * n) ((N 4 (p.toNat)).toNat)), .inl (N 4 (p.toNat)), .inr (some (8 + 3 * n))], shW, N, 0, 0)) rfl ?_
      refine mm_ca rfl ⟨⟨_, rfl⟩, rfl, Nat.le_of_ble_eq_true rfl, Nat.le_of_ble_eq_true rfl⟩ (d' := 1) (by decide) (c_K_changeBy N p ⟨by omega, by omega⟩) ?_
      rintro _ _ _ ⟨rfl, rfl, rfl⟩
      refine mm_go 0 (Y := (58, [(4, .inl (N 4 (p.toNat))), (0, .inr (some (7 + 3 * n))), (1, .inr (some 1)), (2, .inl p), (3, .inl u)], [.inl (r_K_changeBy N p), .inl (N (8 + 3 * n) ((N 4 (p.toNat)).toNat)), .inl (N 4 (p.toNat)), .inr (some (8 + 3 * n))], shW, N, 0, 0)) rfl ?_
      refine mm_go 1 (Y := (59, [(4, .inl (N 4 (p.toNat))), (0, .inr (some (7 + 3 * n))), (1, .inr (some 1)), (2, .inl p), (3, .inl u)], [.inl (mm_wr ((N (8 + 3 * n) ((N 4 (p.toNat)).toNat)) + (r_K_changeBy N p))), .inl (N 4 (p.toNat)), .inr (some (8 + 3 * n))], shW, N, 0, 0)) rfl ?_
      refine mm_is rfl (sv_s hn) ⟨by omega, by omega⟩ (Y := (60, [(4, .inl (N 4 (p.toNat))), (0, .inr (some (7 + 3 * n))), (1, .inr (some 1)), (2, .inl p), (3, .inl u)], [], shW, (mm_f2 N (8 + 3 * n) ((N 4 (p.toNat)).toNat) (mm_wr ((N (8 + 3 * n) ((N 4 (p.toNat)).toNat)) + (r_K_changeBy N p)))), 0, 0)) rfl ?_
      refine mm_go 1 (Y := (61, [(4, .inl (N 4 (p.toNat))), (0, .inr (some (7 + 3 * n))), (1, .inr (some 1)), (2, .inl p), (3, .inl u)], [.inl 2], shW, (mm_f2 N (8 + 3 * n) ((N 4 (p.toNat)).toNat) (mm_wr ((N (8 + 3 * n) ((N 4 (p.toNat)).toNat)) + (r_K_changeBy N p)))), 0, 0)) rfl ?_
      exact mm_rt rfl ⟨rfl, Or.inl rfl⟩ ⟨by unfold r_V_attempt; rw [if_pos h1, if_neg h2], rfl, by unfold n_V_attempt; rw [if_pos h1, if_neg h2]⟩
  · skip
    refine mm_go 1 (Y := (12, [(4, .inl (N 4 (p.toNat))), (0, .inr (some (7 + 3 * n))), (1, .inr (some 1)), (2, .inl p), (3, .inl u)], [.inr (some (7 + 3 * n))], shW, N, 0, 0)) rfl ?_
    refine mm_gr rfl (sv_o hn) rfl (Y := (15, [(4, .inl (N 4 (p.toNat))), (0, .inr (some (7 + 3 * n))), (1, .inr (some 1)), (2, .inl p), (3, .inl u)], [.inr (some (8 + 3 * n))], shW, N, 0, 0)) rfl ?_
    refine mm_go 2 (Y := (18, [(4, .inl (N 4 (p.toNat))), (0, .inr (some (7 + 3 * n))), (1, .inr (some 1)), (2, .inl p), (3, .inl u)], [.inl (N 4 (p.toNat)), .inr (some (8 + 3 * n)), .inl (N 4 (p.toNat)), .inr (some (8 + 3 * n))], shW, N, 0, 0)) rfl ?_
    refine mm_il rfl (sv_s hn) ⟨by omega, by omega⟩ (Y := (19, [(4, .inl (N 4 (p.toNat))), (0, .inr (some (7 + 3 * n))), (1, .inr (some 1)), (2, .inl p), (3, .inl u)], [.inl (N (8 + 3 * n) ((N 4 (p.toNat)).toNat)), .inl (N 4 (p.toNat)), .inr (some (8 + 3 * n))], shW, N, 0, 0)) rfl ?_
    refine mm_go 2 (Y := (21, [(4, .inl (N 4 (p.toNat))), (0, .inr (some (7 + 3 * n))), (1, .inr (some 1)), (2, .inl p), (3, .inl u)], [.inl p, .inr (some 1), .inl (N (8 + 3 * n) ((N 4 (p.toNat)).toNat)), .inl (N 4 (p.toNat)), .inr (some (8 + 3 * n))], shW, N, 0, 0)) rfl ?_
    refine mm_ca rfl ⟨⟨_, rfl⟩, rfl, Nat.le_of_ble_eq_true rfl, Nat.le_of_ble_eq_true rfl⟩ (d' := 1) (by decide) (c_K_changeBy N p ⟨by omega, by omega⟩) ?_
    rintro _ _ _ ⟨rfl, rfl, rfl⟩
    refine mm_go 0 (Y := (24, [(4, .inl (N 4 (p.toNat))), (0, .inr (some (7 + 3 * n))), (1, .inr (some 1)), (2, .inl p), (3, .inl u)], [.inl (r_K_changeBy N p), .inl (N (8 + 3 * n) ((N 4 (p.toNat)).toNat)), .inl (N 4 (p.toNat)), .inr (some (8 + 3 * n))], shW, N, 0, 0)) rfl ?_
    refine mm_go 1 (Y := (25, [(4, .inl (N 4 (p.toNat))), (0, .inr (some (7 + 3 * n))), (1, .inr (some 1)), (2, .inl p), (3, .inl u)], [.inl (mm_wr ((N (8 + 3 * n) ((N 4 (p.toNat)).toNat)) - (r_K_changeBy N p))), .inl (N 4 (p.toNat)), .inr (some (8 + 3 * n))], shW, N, 0, 0)) rfl ?_
    refine mm_is rfl (sv_s hn) ⟨by omega, by omega⟩ (Y := (26, [(4, .inl (N 4 (p.toNat))), (0, .inr (some (7 + 3 * n))), (1, .inr (some 1)), (2, .inl p), (3, .inl u)], [], shW, (mm_f2 N (8 + 3 * n) ((N 4 (p.toNat)).toNat) (mm_wr ((N (8 + 3 * n) ((N 4 (p.toNat)).toNat)) - (r_K_changeBy N p)))), 0, 0)) rfl ?_
    refine mm_go 1 (Y := (27, [(4, .inl (N 4 (p.toNat))), (0, .inr (some (7 + 3 * n))), (1, .inr (some 1)), (2, .inl p), (3, .inl u)], [.inl 2], shW, (mm_f2 N (8 + 3 * n) ((N 4 (p.toNat)).toNat) (mm_wr ((N (8 + 3 * n) ((N 4 (p.toNat)).toNat)) - (r_K_changeBy N p)))), 0, 0)) rfl ?_
    exact mm_rt rfl ⟨rfl, Or.inl rfl⟩ ⟨by unfold r_V_attempt; rw [if_neg h1], rfl, by unfold n_V_attempt; rw [if_neg h1]⟩
theorem c_L_size {L : Nat} {xs : Nat → Int} (N : mm_N)  : mm_Cl mm_pf mm_bd L xs mm_pr 1 38 [.inr (some 14)] shW N (fun r sh N' => r = some (.inl (N 14 1)) ∧ sh = shW ∧ N = N') := by
  refine mm_start p_L_size ?_
  refine mm_go 2 (Y := (4, [(0, .inr (some 14))], [.inl (N 14 1)], shW, N, 0, 0)) rfl ?_
  exact mm_rt rfl ⟨rfl, Or.inl rfl⟩ ⟨rfl, rfl, rfl⟩
theorem c_L_at {L : Nat} {xs : Nat → Int} (N : mm_N) (k : Int) (hk : 0 ≤ k ∧ k < 24) : mm_Cl mm_pf mm_bd L xs mm_pr 1 59 [.inr (some 14), .inl k] shW N (fun r sh N' => r = some (.inl (N 15 (k.toNat))) ∧ sh = shW ∧ N = N') := by
  refine mm_start p_L_at ?_
  refine mm_go 3 (Y := (5, [(0, .inr (some 14)), (1, .inl k)], [.inl k, .inr (some 15)], shW, N, 0, 0)) rfl ?_
  refine mm_cd (Y := (6, [(0, .inr (some 14)), (1, .inl k)], [.inl (N 15 (k.toNat))], shW, N, 0, 0)) rfl ⟨by omega, by omega⟩ ?_
  exact mm_rt rfl ⟨rfl, Or.inl rfl⟩ ⟨rfl, rfl, rfl⟩
def n_L_put (N : mm_N) (m : Int) : mm_N := if (N 14 1) < 24 then (mm_f2 (mm_f2 N 15 ((N 14 1).toNat) m) 14 1 ((N 14 1) + 1)) else N
theorem c_L_put {L : Nat} {xs : Nat → Int} (N : mm_N) (m : Int) (hc : 0 ≤ N 14 1 ∧ N 14 1 < 25) : mm_Cl mm_pf mm_bd L xs mm_pr 1 36 [.inr (some 14), .inl m] shW N (fun r sh N' => r = none ∧ sh = shW ∧ n_L_put N m = N') := by
  refine mm_start p_L_put ?_
  refine mm_go 4 (Y := (if (N 14 1) < 24 then 9 else 29, [(0, .inr (some 14)), (1, .inl m)], [], shW, N, 0, 0)) rfl ?_
  refine mm_if (fun h1 => ?_) (fun h1 => ?_)
  · skip
    refine mm_go 5 (Y := (18, [(0, .inr (some 14)), (1, .inl m)], [.inl m, .inl (N 14 1), .inr (some 15)], shW, N, 0, 0)) rfl ?_
    refine mm_cd (Y := (19, [(0, .inr (some 14)), (1, .inl m)], [], shW, (mm_f2 N 15 ((N 14 1).toNat) m), 0, 0)) rfl ⟨by omega, by omega⟩ ?_
    refine mm_go 5 (Y := (26, [(0, .inr (some 14)), (1, .inl m)], [.inl (mm_wr ((N 14 1) + 1)), .inr (some 14)], shW, (mm_f2 N 15 ((N 14 1).toNat) m), 0, 0)) rfl ?_
    rw [mm_wr_id (z := (N 14 1) + 1) (by omega) (by omega)]
    refine mm_go 1 (Y := (29, [(0, .inr (some 14)), (1, .inl m)], [], shW, (mm_f2 (mm_f2 N 15 ((N 14 1).toNat) m) 14 1 ((N 14 1) + 1)), 0, 0)) rfl ?_
    exact mm_rt rfl rfl ⟨rfl, rfl, by unfold n_L_put; rw [if_pos h1]⟩
  · skip
    exact mm_rt rfl rfl ⟨rfl, rfl, by unfold n_L_put; rw [if_neg h1]⟩
theorem c_L_take {L : Nat} {xs : Nat → Int} (N : mm_N) (k : Int) (hk : 0 ≤ k ∧ k < N 14 1) (hc : N 14 1 < 25) : mm_Cl mm_pf mm_bd L xs mm_pr 1 39 [.inr (some 14), .inl k] shW N (fun r sh N' => r = some (.inl (N 15 (k.toNat))) ∧ sh = shW ∧ (mm_f0 (mm_f2 N 14 1 ((N 14 1) - 1)) 15 (mm_cp (N 15) (N 15) (k + 1).toNat k.toNat (((N 14 1) - 1) - k).toNat)) = N') := by
  refine mm_start p_L_take ?_
  refine mm_go 3 (Y := (5, [(0, .inr (some 14)), (1, .inl k)], [.inl k, .inr (some 15)], shW, N, 0, 0)) rfl ?_
  refine mm_cd (Y := (6, [(0, .inr (some 14)), (1, .inl k)], [.inl (N 15 (k.toNat))], shW, N, 0, 0)) rfl ⟨by omega, by omega⟩ ?_
  refine mm_go 6 (Y := (14, [(2, .inl (N 15 (k.toNat))), (0, .inr (some 14)), (1, .inl k)], [.inl (mm_wr ((N 14 1) - 1)), .inr (some 14)], shW, N, 0, 0)) rfl ?_
  rw [mm_wr_id (z := (N 14 1) - 1) (by omega) (by omega)]
  refine mm_go 6 (Y := (24, [(2, .inl (N 15 (k.toNat))), (0, .inr (some 14)), (1, .inl k)], [.inl (mm_wr (k + 1)), .inr (some 15)], shW, (mm_f2 N 14 1 ((N 14 1) - 1)), 0, 0)) rfl ?_
  rw [mm_wr_id (z := k + 1) (by omega) (by omega)]
  refine mm_go 7 (Y := (35, [(2, .inl (N 15 (k.toNat))), (0, .inr (some 14)), (1, .inl k)], [.inl (mm_wr (((N 14 1) - 1) - k)), .inl k, .inr (some 15), .inl (k + 1), .inr (some 15)], shW, (mm_f2 N 14 1 ((N 14 1) - 1)), 0, 0)) rfl ?_
  rw [mm_wr_id (z := ((N 14 1) - 1) - k) (by omega) (by omega)]
  refine mm_cd (Y := (38, [(2, .inl (N 15 (k.toNat))), (0, .inr (some 14)), (1, .inl k)], [], shW, (mm_f0 (mm_f2 N 14 1 ((N 14 1) - 1)) 15 (mm_cp (N 15) (N 15) (k + 1).toNat k.toNat (((N 14 1) - 1) - k).toNat)), 0, 0)) rfl ⟨⟨by omega, by omega, by omega⟩, by omega, by omega⟩ ?_
  refine mm_go 1 (Y := (39, [(2, .inl (N 15 (k.toNat))), (0, .inr (some 14)), (1, .inl k)], [.inl (N 15 (k.toNat))], shW, (mm_f0 (mm_f2 N 14 1 ((N 14 1) - 1)) 15 (mm_cp (N 15) (N 15) (k + 1).toNat k.toNat (((N 14 1) - 1) - k).toNat)), 0, 0)) rfl ?_
  exact mm_rt rfl ⟨rfl, Or.inl rfl⟩ ⟨rfl, rfl, rfl⟩
theorem c_G_size {L : Nat} {xs : Nat → Int} (N : mm_N)  : mm_Cl mm_pf mm_bd L xs mm_pr 1 23 [.inr (some 16)] shW N (fun r sh N' => r = some (.inl (N 16 1)) ∧ sh = shW ∧ N = N') := by
  refine mm_start p_G_size ?_
  refine mm_go 2 (Y := (4, [(0, .inr (some 16))], [.inl (N 16 1)], shW, N, 0, 0)) rfl ?_
  exact mm_rt rfl ⟨rfl, Or.inl rfl⟩ ⟨rfl, rfl, rfl⟩
theorem c_G_safeSize {L : Nat} {xs : Nat → Int} (N : mm_N)  : mm_Cl mm_pf mm_bd L xs mm_pr 1 24 [.inr (some 16)] shW N (fun r sh N' => r = some (.inl (N 16 2)) ∧ sh = shW ∧ N = N') := by
  refine mm_start p_G_safeSize ?_
  refine mm_go 2 (Y := (4, [(0, .inr (some 16))], [.inl (N 16 2)], shW, N, 0, 0)) rfl ?_
  exact mm_rt rfl ⟨rfl, Or.inl rfl⟩ ⟨rfl, rfl, rfl⟩
theorem c_G_byteAt {L : Nat} {xs : Nat → Int} (N : mm_N) (p : Int) (hp : 0 ≤ p ∧ p < 288) : mm_Cl mm_pf mm_bd L xs mm_pr 1 75 [.inr (some 16), .inl p] shW N (fun r sh N' => r = some (.inl (N 17 (p.toNat))) ∧ sh = shW ∧ N = N') := by
  refine mm_start p_G_byteAt ?_
  refine mm_go 3 (Y := (5, [(0, .inr (some 16)), (1, .inl p)], [.inl p, .inr (some 17)], shW, N, 0, 0)) rfl ?_
  refine mm_cd (Y := (6, [(0, .inr (some 16)), (1, .inl p)], [.inl (N 17 (p.toNat))], shW, N, 0, 0)) rfl ⟨by omega, by omega⟩ ?_
  exact mm_rt rfl ⟨rfl, Or.inl rfl⟩ ⟨rfl, rfl, rfl⟩
def n_G_append (N : mm_N) (t : Int) (g : Int) (v : Int) : mm_N := if 288 < ((N 16 1) + 3) then N else (mm_f2 (mm_f2 (mm_f2 (mm_f2 N 17 ((N 16 1).toNat) t) 17 (((N 16 1) + 1).toNat) g) 17 (((N 16 1) + 2).toNat) v) 16 1 ((N 16 1) + 3))
theorem c_G_append {L : Nat} {xs : Nat → Int} (N : mm_N) (t : Int) (g : Int) (v : Int) (hc : 0 ≤ N 16 1 ∧ N 16 1 < 289) : mm_Cl mm_pf mm_bd L xs mm_pr 1 15 [.inr (some 16), .inl t, .inl g, .inl v] shW N (fun r sh N' => r = none ∧ sh = shW ∧ n_G_append N t g v = N') := by
  refine mm_start p_G_append ?_
  refine mm_go 4 (Y := (6, [(0, .inr (some 16)), (1, .inl t), (2, .inl g), (3, .inl v)], [.inl (mm_wr ((N 16 1) + 3))], shW, N, 0, 0)) rfl ?_
  rw [mm_wr_id (z := (N 16 1) + 3) (by omega) (by omega)]
  refine mm_go 2 (Y := (if 288 < ((N 16 1) + 3) then 12 else 13, [(0, .inr (some 16)), (1, .inl t), (2, .inl g), (3, .inl v)], [], shW, N, 0, 0)) rfl ?_
  refine mm_if (fun h1 => ?_) (fun h1 => ?_)
  · skip
    exact mm_rt rfl rfl ⟨rfl, rfl, by unfold n_G_append; rw [if_pos h1]⟩
  · skip
    refine mm_go 5 (Y := (22, [(0, .inr (some 16)), (1, .inl t), (2, .inl g), (3, .inl v)], [.inl t, .inl (N 16 1), .inr (some 17)], shW, N, 0, 0)) rfl ?_
    refine mm_cd (Y := (23, [(0, .inr (some 16)), (1, .inl t), (2, .inl g), (3, .inl v)], [], shW, (mm_f2 N 17 ((N 16 1).toNat) t), 0, 0)) rfl ⟨by omega, by omega⟩ ?_
    refine mm_go 6 (Y := (33, [(0, .inr (some 16)), (1, .inl t), (2, .inl g), (3, .inl v)], [.inl (mm_wr ((N 16 1) + 1)), .inr (some 17)], shW, (mm_f2 N 17 ((N 16 1).toNat) t), 0, 0)) rfl ?_
    rw [mm_wr_id (z := (N 16 1) + 1) (by omega) (by omega)]
    refine mm_go 1 (Y := (34, [(0, .inr (some 16)), (1, .inl t), (2, .inl g), (3, .inl v)], [.inl g, .inl ((N 16 1) + 1), .inr (some 17)], shW, (mm_f2 N 17 ((N 16 1).toNat) t), 0, 0)) rfl ?_
    refine mm_cd (Y := (35, [(0, .inr (some 16)), (1, .inl t), (2, .inl g), (3, .inl v)], [], shW, (mm_f2 (mm_f2 N 17 ((N 16 1).toNat) t) 17 (((N 16 1) + 1).toNat) g), 0, 0)) rfl ⟨by omega, by omega⟩ ?_
    refine mm_go 6 (Y := (45, [(0, .inr (some 16)), (1, .inl t), (2, .inl g), (3, .inl v)], [.inl (mm_wr ((N 16 1) + 2)), .inr (some 17)], shW, (mm_f2 (mm_f2 N 17 ((N 16 1).toNat) t) 17 (((N 16 1) + 1).toNat) g), 0, 0)) rfl ?_
    rw [mm_wr_id (z := (N 16 1) + 2) (by omega) (by omega)]
    refine mm_go 1 (Y := (46, [(0, .inr (some 16)), (1, .inl t), (2, .inl g), (3, .inl v)], [.inl v, .inl ((N 16 1) + 2), .inr (some 17)], shW, (mm_f2 (mm_f2 N 17 ((N 16 1).toNat) t) 17 (((N 16 1) + 1).toNat) g), 0, 0)) rfl ?_
    refine mm_cd (Y := (47, [(0, .inr (some 16)), (1, .inl t), (2, .inl g), (3, .inl v)], [], shW, (mm_f2 (mm_f2 (mm_f2 N 17 ((N 16 1).toNat) t) 17 (((N 16 1) + 1).toNat) g) 17 (((N 16 1) + 2).toNat) v), 0, 0)) rfl ⟨by omega, by omega⟩ ?_
    refine mm_go 5 (Y := (54, [(0, .inr (some 16)), (1, .inl t), (2, .inl g), (3, .inl v)], [.inl (mm_wr ((N 16 1) + 3)), .inr (some 16)], shW, (mm_f2 (mm_f2 (mm_f2 N 17 ((N 16 1).toNat) t) 17 (((N 16 1) + 1).toNat) g) 17 (((N 16 1) + 2).toNat) v), 0, 0)) rfl ?_
    rw [mm_wr_id (z := (N 16 1) + 3) (by omega) (by omega)]
    refine mm_go 1 (Y := (57, [(0, .inr (some 16)), (1, .inl t), (2, .inl g), (3, .inl v)], [], shW, (mm_f2 (mm_f2 (mm_f2 (mm_f2 N 17 ((N 16 1).toNat) t) 17 (((N 16 1) + 1).toNat) g) 17 (((N 16 1) + 2).toNat) v) 16 1 ((N 16 1) + 3)), 0, 0)) rfl ?_
    exact mm_rt rfl rfl ⟨rfl, rfl, by unfold n_G_append; rw [if_neg h1]⟩
def n_G_secureByte (N : mm_N) : mm_N := if (N 16 2) < (N 16 1) then (mm_f2 N 16 2 ((N 16 2) + 1)) else N
theorem c_G_secureByte {L : Nat} {xs : Nat → Int} (N : mm_N) (hc : 0 ≤ N 16 2 ∧ N 16 2 < 289) : mm_Cl mm_pf mm_bd L xs mm_pr 1 25 [.inr (some 16)] shW N (fun r sh N' => r = none ∧ sh = shW ∧ n_G_secureByte N = N') := by
  refine mm_start p_G_secureByte ?_
  refine mm_go 5 (Y := (if (N 16 2) < (N 16 1) then 11 else 21, [(0, .inr (some 16))], [], shW, N, 0, 0)) rfl ?_
  refine mm_if (fun h1 => ?_) (fun h1 => ?_)
  · skip
    refine mm_go 5 (Y := (18, [(0, .inr (some 16))], [.inl (mm_wr ((N 16 2) + 1)), .inr (some 16)], shW, N, 0, 0)) rfl ?_
    rw [mm_wr_id (z := (N 16 2) + 1) (by omega) (by omega)]
    refine mm_go 1 (Y := (21, [(0, .inr (some 16))], [], shW, (mm_f2 N 16 2 ((N 16 2) + 1)), 0, 0)) rfl ?_
    exact mm_rt rfl rfl ⟨rfl, rfl, by unfold n_G_secureByte; rw [if_pos h1]⟩
  · skip
    exact mm_rt rfl rfl ⟨rfl, rfl, by unfold n_G_secureByte; rw [if_neg h1]⟩
theorem c_G_dropUnsafe {L : Nat} {xs : Nat → Int} (N : mm_N)  : mm_Cl mm_pf mm_bd L xs mm_pr 1 62 [.inr (some 16)] shW N (fun r sh N' => r = none ∧ sh = shW ∧ (mm_f2 N 16 1 (N 16 2)) = N') := by
  refine mm_start p_G_dropUnsafe ?_
  refine mm_go 4 (Y := (8, [(0, .inr (some 16))], [], shW, (mm_f2 N 16 1 (N 16 2)), 0, 0)) rfl ?_
  exact mm_rt rfl rfl ⟨rfl, rfl, rfl⟩
theorem c_G_wholeRecords {L : Nat} {xs : Nat → Int} (N : mm_N) (hc : 0 ≤ N 16 1 ∧ N 16 1 < 289) : mm_Cl mm_pf mm_bd L xs mm_pr 1 16 [.inr (some 16)] shW N (fun r sh N' => r = some (.inl ((N 16 1) / 3)) ∧ sh = shW ∧ N = N') := by
  refine mm_start p_G_wholeRecords ?_
  refine mm_go 3 (Y := (5, [(0, .inr (some 16))], [.inl 3, .inl (N 16 1)], shW, N, 0, 0)) rfl ?_
  refine mm_cd (Y := (6, [(0, .inr (some 16))], [.inl (mm_wr ((N 16 1).tdiv 3))], shW, N, 0, 0)) rfl (by decide) ?_
  rw [mm_tdiv (x := N 16 1) (n := 3) (by omega) (by omega) (by omega)]
  exact mm_rt rfl ⟨rfl, Or.inl rfl⟩ ⟨rfl, rfl, rfl⟩
theorem c_G_dropTornRecord {L : Nat} {xs : Nat → Int} (N : mm_N) (hc : 0 ≤ N 16 1 ∧ N 16 1 < 289) : mm_Cl mm_pf mm_bd L xs mm_pr 2 65 [.inr (some 16)] shW N (fun r sh N' => r = none ∧ sh = shW ∧ (mm_f2 (mm_f2 N 16 1 (3 * (((N 16 1)) / 3))) 16 2 (if (3 * (((N 16 1)) / 3)) < (N 16 2) then 3 * (((N 16 1)) / 3) else N 16 2)) = N') := by
  refine mm_start p_G_dropTornRecord ?_
  refine mm_go 3 (Y := (3, [(0, .inr (some 16))], [.inr (some 16), .inl 3, .inr (some 16)], shW, N, 0, 0)) rfl ?_
  refine mm_ca rfl ⟨⟨_, rfl⟩, rfl, Nat.le_of_ble_eq_true rfl, Nat.le_of_ble_eq_true rfl⟩ (d' := 1) (by decide) (c_G_wholeRecords N  ⟨by first | omega | (simp [mm_f2_at, mm_f0_at]; omega), by first | omega | (simp [mm_f2_at, mm_f0_at]; omega)⟩) ?_
  rintro _ _ _ ⟨rfl, rfl, rfl⟩
  refine mm_go 0 (Y := (6, [(0, .inr (some 16))], [.inl (((N 16 1)) / 3), .inl 3, .inr (some 16)], shW, N, 0, 0)) rfl ?_
  refine mm_go 1 (Y := (7, [(0, .inr (some 16))], [.inl (mm_wr (3 * (((N 16 1)) / 3))), .inr (some 16)], shW, N, 0, 0)) rfl ?_
  rw [mm_wr_id (z := 3 * (((N 16 1)) / 3)) (by omega) (by omega)]
  refine mm_go 8 (Y := (25, [(0, .inr (some 16))], [], shW, (mm_f2 (mm_f2 N 16 1 (3 * (((N 16 1)) / 3))) 16 2 (if (3 * (((N 16 1)) / 3)) < (N 16 2) then 3 * (((N 16 1)) / 3) else N 16 2)), 0, 0)) rfl ?_
  exact mm_rt rfl rfl ⟨rfl, rfl, rfl⟩
def r_G_isSafe (N : mm_N) (p : Int) : Int := if (N 16 2) < (3 * (p + 1)) then 0 else 1
theorem c_G_isSafe {L : Nat} {xs : Nat → Int} (N : mm_N) (p : Int) (hp : 0 ≤ p ∧ p < 97) : mm_Cl mm_pf mm_bd L xs mm_pr 1 30 [.inr (some 16), .inl p] shW N (fun r sh N' => r = some (.inl (r_G_isSafe N p)) ∧ sh = shW ∧ N = N') := by
  refine mm_start p_G_isSafe ?_
  refine mm_go 4 (Y := (4, [(0, .inr (some 16)), (1, .inl p)], [.inl (mm_wr (p + 1)), .inl 3], shW, N, 0, 0)) rfl ?_
  rw [mm_wr_id (z := p + 1) (by omega) (by omega)]
  refine mm_go 1 (Y := (5, [(0, .inr (some 16)), (1, .inl p)], [.inl (mm_wr (3 * (p + 1)))], shW, N, 0, 0)) rfl ?_
  rw [mm_wr_id (z := 3 * (p + 1)) (by omega) (by omega)]
  refine mm_go 3 (Y := (if (N 16 2) < (3 * (p + 1)) then 16 else 12, [(0, .inr (some 16)), (1, .inl p)], [], shW, N, 0, 0)) rfl ?_
  refine mm_if (fun h1 => ?_) (fun h1 => ?_)
  · skip
    refine mm_go 1 (Y := (17, [(0, .inr (some 16)), (1, .inl p)], [.inl 0], shW, N, 0, 0)) rfl ?_
    exact mm_rt rfl ⟨rfl, Or.inr ⟨rfl, (Or.inl rfl)⟩⟩ ⟨by unfold r_G_isSafe; rw [if_pos h1], rfl, rfl⟩
  · skip
    refine mm_go 2 (Y := (17, [(0, .inr (some 16)), (1, .inl p)], [.inl 1], shW, N, 0, 0)) rfl ?_
    exact mm_rt rfl ⟨rfl, Or.inr ⟨rfl, (Or.inr rfl)⟩⟩ ⟨by unfold r_G_isSafe; rw [if_neg h1], rfl, rfl⟩
theorem c_G_typeOfRecord {L : Nat} {xs : Nat → Int} (N : mm_N) (p : Int) (hp : 0 ≤ p ∧ p < 96) : mm_Cl mm_pf mm_bd L xs mm_pr 1 18 [.inr (some 16), .inl p] shW N (fun r sh N' => r = some (.inl (N 17 ((3 * p).toNat))) ∧ sh = shW ∧ N = N') := by
  refine mm_start p_G_typeOfRecord ?_
  refine mm_go 5 (Y := (7, [(0, .inr (some 16)), (1, .inl p)], [.inl (mm_wr (3 * p)), .inr (some 17)], shW, N, 0, 0)) rfl ?_
  rw [mm_wr_id (z := 3 * p) (by omega) (by omega)]
  refine mm_cd (Y := (8, [(0, .inr (some 16)), (1, .inl p)], [.inl (N 17 ((3 * p).toNat))], shW, N, 0, 0)) rfl ⟨by omega, by omega⟩ ?_
  exact mm_rt rfl ⟨rfl, Or.inl rfl⟩ ⟨rfl, rfl, rfl⟩
theorem c_G_sagaOfRecord {L : Nat} {xs : Nat → Int} (N : mm_N) (p : Int) (hp : 0 ≤ p ∧ p < 96) : mm_Cl mm_pf mm_bd L xs mm_pr 1 19 [.inr (some 16), .inl p] shW N (fun r sh N' => r = some (.inl (N 17 (((3 * p) + 1).toNat))) ∧ sh = shW ∧ N = N') := by
  refine mm_start p_G_sagaOfRecord ?_
  refine mm_go 5 (Y := (7, [(0, .inr (some 16)), (1, .inl p)], [.inl (mm_wr (3 * p)), .inr (some 17)], shW, N, 0, 0)) rfl ?_
  rw [mm_wr_id (z := 3 * p) (by omega) (by omega)]
  refine mm_go 2 (Y := (9, [(0, .inr (some 16)), (1, .inl p)], [.inl (mm_wr ((3 * p) + 1)), .inr (some 17)], shW, N, 0, 0)) rfl ?_
  rw [mm_wr_id (z := (3 * p) + 1) (by omega) (by omega)]
  refine mm_cd (Y := (10, [(0, .inr (some 16)), (1, .inl p)], [.inl (N 17 (((3 * p) + 1).toNat))], shW, N, 0, 0)) rfl ⟨by omega, by omega⟩ ?_
  exact mm_rt rfl ⟨rfl, Or.inl rfl⟩ ⟨rfl, rfl, rfl⟩
theorem c_G_valueOfRecord {L : Nat} {xs : Nat → Int} (N : mm_N) (p : Int) (hp : 0 ≤ p ∧ p < 96) : mm_Cl mm_pf mm_bd L xs mm_pr 1 20 [.inr (some 16), .inl p] shW N (fun r sh N' => r = some (.inl (N 17 (((3 * p) + 2).toNat))) ∧ sh = shW ∧ N = N') := by
  refine mm_start p_G_valueOfRecord ?_
  refine mm_go 5 (Y := (7, [(0, .inr (some 16)), (1, .inl p)], [.inl (mm_wr (3 * p)), .inr (some 17)], shW, N, 0, 0)) rfl ?_
  rw [mm_wr_id (z := 3 * p) (by omega) (by omega)]
  refine mm_go 2 (Y := (9, [(0, .inr (some 16)), (1, .inl p)], [.inl (mm_wr ((3 * p) + 2)), .inr (some 17)], shW, N, 0, 0)) rfl ?_
  rw [mm_wr_id (z := (3 * p) + 2) (by omega) (by omega)]
  refine mm_cd (Y := (10, [(0, .inr (some 16)), (1, .inl p)], [.inl (N 17 (((3 * p) + 2).toNat))], shW, N, 0, 0)) rfl ⟨by omega, by omega⟩ ?_
  exact mm_rt rfl ⟨rfl, Or.inl rfl⟩ ⟨rfl, rfl, rfl⟩
def n_S_read (N : mm_N) (n : Nat) (t : Int) (v : Int) (p : Int) : mm_N := if t = 1 then (mm_f2 (mm_f2 (mm_f2 (mm_f2 (mm_f2 N (19 + n) 0 v) (19 + n) 1 0) (19 + n) 2 0) (19 + n) 3 0) (19 + n) 4 p) else (if t = 2 then (mm_f2 (mm_f2 N (19 + n) 1 ((N (19 + n) 1) + 1)) (19 + n) 4 p) else (if t = 3 then (mm_f2 (mm_f2 N (19 + n) 3 1) (19 + n) 4 p) else (if t = 4 then (mm_f2 (mm_f2 N (19 + n) 2 ((N (19 + n) 2) + 1)) (19 + n) 4 p) else (mm_f2 N (19 + n) 4 p))))
theorem c_S_read {L : Nat} {xs : Nat → Int} (N : mm_N) (n : Nat) (t : Int) (v : Int) (p : Int) (hn : n < 12) (hd : 0 ≤ N (19 + n) 1 ∧ N (19 + n) 1 < 1000) (hu : 0 ≤ N (19 + n) 2 ∧ N (19 + n) 2 < 1000) : mm_Cl mm_pf mm_bd L xs mm_pr 1 21 [.inr (some (19 + n)), .inl t, .inl v, .inl p] shW N (fun r sh N' => r = none ∧ sh = shW ∧ n_S_read N n t v p = N') := by
  refine mm_start p_S_read ?_
  refine mm_go 3 (Y := (if t = 1 then 5 else 28, [(0, .inr (some (19 + n))), (1, .inl t), (2, .inl v), (3, .inl p)], [], shW, N, 0, 0)) rfl ?_
  refine mm_if (fun h1 => ?_) (fun h1 => ?_)
  · skip
    refine mm_go 2 (Y := (7, [(0, .inr (some (19 + n))), (1, .inl t), (2, .inl v), (3, .inl p)], [.inl v, .inr (some (19 + n))], shW, N, 0, 0)) rfl ?_
    refine mm_pt0 rfl (sg_o hn) rfl (Y := (10, [(0, .inr (some (19 + n))), (1, .inl t), (2, .inl v), (3, .inl p)], [], shW, (mm_f2 N (19 + n) 0 v), 0, 0)) rfl ?_
    refine mm_go 2 (Y := (12, [(0, .inr (some (19 + n))), (1, .inl t), (2, .inl v), (3, .inl p)], [.inl 0, .inr (some (19 + n))], shW, (mm_f2 N (19 + n) 0 v), 0, 0)) rfl ?_
    refine mm_pt0 rfl (sg_o hn) rfl (Y := (15, [(0, .inr (some (19 + n))), (1, .inl t), (2, .inl v), (3, .inl p)], [], shW, (mm_f2 (mm_f2 N (19 + n) 0 v) (19 + n) 1 0), 0, 0)) rfl ?_
    refine mm_go 2 (Y := (17, [(0, .inr (some (19 + n))), (1, .inl t), (2, .inl v), (3, .inl p)], [.inl 0, .inr (some (19 + n))], shW, (mm_f2 (mm_f2 N (19 + n) 0 v) (19 + n) 1 0), 0, 0)) rfl ?_
    refine mm_pt0 rfl (sg_o hn) rfl (Y := (20, [(0, .inr (some (19 + n))), (1, .inl t), (2, .inl v), (3, .inl p)], [], shW, (mm_f2 (mm_f2 (mm_f2 N (19 + n) 0 v) (19 + n) 1 0) (19 + n) 2 0), 0, 0)) rfl ?_
    refine mm_go 2 (Y := (22, [(0, .inr (some (19 + n))), (1, .inl t), (2, .inl v), (3, .inl p)], [.inl 0, .inr (some (19 + n))], shW, (mm_f2 (mm_f2 (mm_f2 N (19 + n) 0 v) (19 + n) 1 0) (19 + n) 2 0), 0, 0)) rfl ?_
    refine mm_pt1 rfl (sg_o hn) rfl (Or.inl rfl) (Y := (25, [(0, .inr (some (19 + n))), (1, .inl t), (2, .inl v), (3, .inl p)], [], shW, (mm_f2 (mm_f2 (mm_f2 (mm_f2 N (19 + n) 0 v) (19 + n) 1 0) (19 + n) 2 0) (19 + n) 3 0), 0, 0)) rfl ?_
    refine mm_go 3 (Y := (76, [(0, .inr (some (19 + n))), (1, .inl t), (2, .inl v), (3, .inl p)], [.inl p, .inr (some (19 + n))], shW, (mm_f2 (mm_f2 (mm_f2 (mm_f2 N (19 + n) 0 v) (19 + n) 1 0) (19 + n) 2 0) (19 + n) 3 0), 0, 0)) rfl ?_
    refine mm_pt0 rfl (sg_o hn) rfl (Y := (79, [(0, .inr (some (19 + n))), (1, .inl t), (2, .inl v), (3, .inl p)], [], shW, (mm_f2 (mm_f2 (mm_f2 (mm_f2 (mm_f2 N (19 + n) 0 v) (19 + n) 1 0) (19 + n) 2 0) (19 + n) 3 0) (19 + n) 4 p), 0, 0)) rfl ?_
    exact mm_rt rfl rfl ⟨rfl, rfl, by unfold n_S_read; rw [if_pos h1]⟩
  · skip
    refine mm_go 3 (Y := (if t = 2 then 33 else 46, [(0, .inr (some (19 + n))), (1, .inl t), (2, .inl v), (3, .inl p)], [], shW, N, 0, 0)) rfl ?_
    refine mm_if (fun h2 => ?_) (fun h2 => ?_)
    · skip
      refine mm_go 2 (Y := (35, [(0, .inr (some (19 + n))), (1, .inl t), (2, .inl v), (3, .inl p)], [.inr (some (19 + n)), .inr (some (19 + n))], shW, N, 0, 0)) rfl ?_
      refine mm_gf rfl (sg_o hn) rfl (Y := (38, [(0, .inr (some (19 + n))), (1, .inl t), (2, .inl v), (3, .inl p)], [.inl (N (19 + n) 1), .inr (some (19 + n))], shW, N, 0, 0)) rfl ?_
      refine mm_go 2 (Y := (40, [(0, .inr (some (19 + n))), (1, .inl t), (2, .inl v), (3, .inl p)], [.inl (mm_wr ((N (19 + n) 1) + 1)), .inr (some (19 + n))], shW, N, 0, 0)) rfl ?_
      rw [mm_wr_id (z := (N (19 + n) 1) + 1) (by omega) (by omega)]
      refine mm_pt0 rfl (sg_o hn) rfl (Y := (43, [(0, .inr (some (19 + n))), (1, .inl t), (2, .inl v), (3, .inl p)], [], shW, (mm_f2 N (19 + n) 1 ((N (19 + n) 1) + 1)), 0, 0)) rfl ?_
      refine mm_go 3 (Y := (76, [(0, .inr (some (19 + n))), (1, .inl t), (2, .inl v), (3, .inl p)], [.inl p, .inr (some (19 + n))], shW, (mm_f2 N (19 + n) 1 ((N (19 + n) 1) + 1)), 0, 0)) rfl ?_
      refine mm_pt0 rfl (sg_o hn) rfl (Y := (79, [(0, .inr (some (19 + n))), (1, .inl t), (2, .inl v), (3, .inl p)], [], shW, (mm_f2 (mm_f2 N (19 + n) 1 ((N (19 + n) 1) + 1)) (19 + n) 4 p), 0, 0)) rfl ?_
      exact mm_rt rfl rfl ⟨rfl, rfl, by unfold n_S_read; rw [if_neg h1, if_pos h2]⟩
    · skip
      refine mm_go 3 (Y := (if t = 3 then 51 else 59, [(0, .inr (some (19 + n))), (1, .inl t), (2, .inl v), (3, .inl p)], [], shW, N, 0, 0)) rfl ?_
      refine mm_if (fun h3 => ?_) (fun h3 => ?_)
      · skip
        refine mm_go 2 (Y := (53, [(0, .inr (some (19 + n))), (1, .inl t), (2, .inl v), (3, .inl p)], [.inl 1, .inr (some (19 + n))], shW, N, 0, 0)) rfl ?_
        refine mm_pt1 rfl (sg_o hn) rfl (Or.inr rfl) (Y := (56, [(0, .inr (some (19 + n))), (1, .inl t), (2, .inl v), (3, .inl p)], [], shW, (mm_f2 N (19 + n) 3 1), 0, 0)) rfl ?_
        refine mm_go 3 (Y := (76, [(0, .inr (some (19 + n))), (1, .inl t), (2, .inl v), (3, .inl p)], [.inl p, .inr (some (19 + n))], shW, (mm_f2 N (19 + n) 3 1), 0, 0)) rfl ?_
        refine mm_pt0 rfl (sg_o hn) rfl (Y := (79, [(0, .inr (some (19 + n))), (1, .inl t), (2, .inl v), (3, .inl p)], [], shW, (mm_f2 (mm_f2 N (19 + n) 3 1) (19 + n) 4 p), 0, 0)) rfl ?_
        exact mm_rt rfl rfl ⟨rfl, rfl, by unfold n_S_read; rw [if_neg h1, if_neg h2, if_pos h3]⟩
      · skip
        refine mm_go 3 (Y := (if t = 4 then 64 else 74, [(0, .inr (some (19 + n))), (1, .inl t), (2, .inl v), (3, .inl p)], [], shW, N, 0, 0)) rfl ?_
        refine mm_if (fun h4 => ?_) (fun h4 => ?_)
        · skip
          refine mm_go 2 (Y := (66, [(0, .inr (some (19 + n))), (1, .inl t), (2, .inl v), (3, .inl p)], [.inr (some (19 + n)), .inr (some (19 + n))], shW, N, 0, 0)) rfl ?_
          refine mm_gf rfl (sg_o hn) rfl (Y := (69, [(0, .inr (some (19 + n))), (1, .inl t), (2, .inl v), (3, .inl p)], [.inl (N (19 + n) 2), .inr (some (19 + n))], shW, N, 0, 0)) rfl ?_
          refine mm_go 2 (Y := (71, [(0, .inr (some (19 + n))), (1, .inl t), (2, .inl v), (3, .inl p)], [.inl (mm_wr ((N (19 + n) 2) + 1)), .inr (some (19 + n))], shW, N, 0, 0)) rfl ?_
          rw [mm_wr_id (z := (N (19 + n) 2) + 1) (by omega) (by omega)]
          refine mm_pt0 rfl (sg_o hn) rfl (Y := (74, [(0, .inr (some (19 + n))), (1, .inl t), (2, .inl v), (3, .inl p)], [], shW, (mm_f2 N (19 + n) 2 ((N (19 + n) 2) + 1)), 0, 0)) rfl ?_
          refine mm_go 2 (Y := (76, [(0, .inr (some (19 + n))), (1, .inl t), (2, .inl v), (3, .inl p)], [.inl p, .inr (some (19 + n))], shW, (mm_f2 N (19 + n) 2 ((N (19 + n) 2) + 1)), 0, 0)) rfl ?_
          refine mm_pt0 rfl (sg_o hn) rfl (Y := (79, [(0, .inr (some (19 + n))), (1, .inl t), (2, .inl v), (3, .inl p)], [], shW, (mm_f2 (mm_f2 N (19 + n) 2 ((N (19 + n) 2) + 1)) (19 + n) 4 p), 0, 0)) rfl ?_
          exact mm_rt rfl rfl ⟨rfl, rfl, by unfold n_S_read; rw [if_neg h1, if_neg h2, if_neg h3, if_pos h4]⟩
        · skip
          refine mm_go 2 (Y := (76, [(0, .inr (some (19 + n))), (1, .inl t), (2, .inl v), (3, .inl p)], [.inl p, .inr (some (19 + n))], shW, N, 0, 0)) rfl ?_
          refine mm_pt0 rfl (sg_o hn) rfl (Y := (79, [(0, .inr (some (19 + n))), (1, .inl t), (2, .inl v), (3, .inl p)], [], shW, (mm_f2 N (19 + n) 4 p), 0, 0)) rfl ?_
          exact mm_rt rfl rfl ⟨rfl, rfl, by unfold n_S_read; rw [if_neg h1, if_neg h2, if_neg h3, if_neg h4]⟩
theorem c_S_kindNumber {L : Nat} {xs : Nat → Int} (N : mm_N) (n : Nat) (hn : n < 12) : mm_Cl mm_pf mm_bd L xs mm_pr 1 33 [.inr (some (19 + n))] shW N (fun r sh N' => r = some (.inl (N (19 + n) 0)) ∧ sh = shW ∧ N = N') := by
  refine mm_start p_S_kindNumber ?_
  refine mm_go 1 (Y := (1, [(0, .inr (some (19 + n)))], [.inr (some (19 + n))], shW, N, 0, 0)) rfl ?_
  refine mm_gf rfl (sg_o hn) rfl (Y := (4, [(0, .inr (some (19 + n)))], [.inl (N (19 + n) 0)], shW, N, 0, 0)) rfl ?_
  exact mm_rt rfl ⟨rfl, Or.inl rfl⟩ ⟨rfl, rfl, rfl⟩
theorem c_S_lastRecord {L : Nat} {xs : Nat → Int} (N : mm_N) (n : Nat) (hn : n < 12) : mm_Cl mm_pf mm_bd L xs mm_pr 1 29 [.inr (some (19 + n))] shW N (fun r sh N' => r = some (.inl (N (19 + n) 4)) ∧ sh = shW ∧ N = N') := by
  refine mm_start p_S_lastRecord ?_
  refine mm_go 1 (Y := (1, [(0, .inr (some (19 + n)))], [.inr (some (19 + n))], shW, N, 0, 0)) rfl ?_
  refine mm_gf rfl (sg_o hn) rfl (Y := (4, [(0, .inr (some (19 + n)))], [.inl (N (19 + n) 4)], shW, N, 0, 0)) rfl ?_
  exact mm_rt rfl ⟨rfl, Or.inl rfl⟩ ⟨rfl, rfl, rfl⟩
theorem c_S_goesBack {L : Nat} {xs : Nat → Int} (N : mm_N) (n : Nat) (hn : n < 12) (hr : N (19 + n) 3 = 0 ∨ N (19 + n) 3 = 1) : mm_Cl mm_pf mm_bd L xs mm_pr 1 35 [.inr (some (19 + n))] shW N (fun r sh N' => r = some (.inl (N (19 + n) 3)) ∧ sh = shW ∧ N = N') := by
  refine mm_start p_S_goesBack ?_
  refine mm_go 1 (Y := (1, [(0, .inr (some (19 + n)))], [.inr (some (19 + n))], shW, N, 0, 0)) rfl ?_
  refine mm_gf rfl (sg_o hn) rfl (Y := (4, [(0, .inr (some (19 + n)))], [.inl (N (19 + n) 3)], shW, N, 0, 0)) rfl ?_
  exact mm_rt rfl ⟨rfl, Or.inr ⟨rfl, (by first | assumption | omega)⟩⟩ ⟨rfl, rfl, rfl⟩
def r_S_isOver (N : mm_N) (n : Nat) : Int := if (N (19 + n) 3) = 0 then (if (N (19 + n) 1) = (N 2 ((N (19 + n) 0).toNat)) then 1 else 0) else (if (N (19 + n) 2) = (N (19 + n) 1) then 1 else 0)
theorem c_S_isOver {L : Nat} {xs : Nat → Int} (N : mm_N) (n : Nat) (hn : n < 12) (hk : 0 ≤ N (19 + n) 0 ∧ N (19 + n) 0 < 4) : mm_Cl mm_pf mm_bd L xs mm_pr 2 28 [.inr (some (19 + n)), .inr (some 1)] shW N (fun r sh N' => r = some (.inl (r_S_isOver N n)) ∧ sh = shW ∧ N = N') := by
  refine mm_start p_S_isOver ?_
  refine mm_go 1 (Y := (1, [(0, .inr (some (19 + n))), (1, .inr (some 1))], [.inr (some (19 + n))], shW, N, 0, 0)) rfl ?_
  refine mm_gf rfl (sg_o hn) rfl (Y := (4, [(0, .inr (some (19 + n))), (1, .inr (some 1))], [.inl (N (19 + n) 3)], shW, N, 0, 0)) rfl ?_
  refine mm_go 1 (Y := (if (N (19 + n) 3) = 0 then 26 else 7, [(0, .inr (some (19 + n))), (1, .inr (some 1))], [], shW, N, 0, 0)) rfl ?_
  refine mm_if (fun h1 => ?_) (fun h1 => ?_)
  · skip
    refine mm_go 1 (Y := (27, [(0, .inr (some (19 + n))), (1, .inr (some 1))], [.inr (some (19 + n))], shW, N, 0, 0)) rfl ?_
    refine mm_gf rfl (sg_o hn) rfl (Y := (30, [(0, .inr (some (19 + n))), (1, .inr (some 1))], [.inl (N (19 + n) 1)], shW, N, 0, 0)) rfl ?_
    refine mm_go 2 (Y := (32, [(0, .inr (some (19 + n))), (1, .inr (some 1))], [.inr (some (19 + n)), .inr (some 1), .inl (N (19 + n) 1)], shW, N, 0, 0)) rfl ?_
    refine mm_gf rfl (sg_o hn) rfl (Y := (35, [(0, .inr (some (19 + n))), (1, .inr (some 1))], [.inl (N (19 + n) 0), .inr (some 1), .inl (N (19 + n) 1)], shW, N, 0, 0)) rfl ?_
    refine mm_ca rfl ⟨⟨_, rfl⟩, rfl, Nat.le_of_ble_eq_true rfl, Nat.le_of_ble_eq_true rfl⟩ (d' := 1) (by decide) (c_K_stepCount N (N (19 + n) 0) ⟨by omega, by omega⟩) ?_
    rintro _ _ _ ⟨rfl, rfl, rfl⟩
    refine mm_go 0 (Y := (38, [(0, .inr (some (19 + n))), (1, .inr (some 1))], [.inl (N 2 ((N (19 + n) 0).toNat)), .inl (N (19 + n) 1)], shW, N, 0, 0)) rfl ?_
    refine mm_go 1 (Y := (if (N (19 + n) 1) = (N 2 ((N (19 + n) 0).toNat)) then 41 else 45, [(0, .inr (some (19 + n))), (1, .inr (some 1))], [], shW, N, 0, 0)) rfl ?_
    refine mm_if (fun h2 => ?_) (fun h2 => ?_)
    · skip
      refine mm_go 2 (Y := (46, [(0, .inr (some (19 + n))), (1, .inr (some 1))], [.inl 1], shW, N, 0, 0)) rfl ?_
      exact mm_rt rfl ⟨rfl, Or.inr ⟨rfl, (Or.inr rfl)⟩⟩ ⟨by unfold r_S_isOver; rw [if_pos h1, if_pos h2], rfl, rfl⟩
    · skip
      refine mm_go 1 (Y := (46, [(0, .inr (some (19 + n))), (1, .inr (some 1))], [.inl 0], shW, N, 0, 0)) rfl ?_
      exact mm_rt rfl ⟨rfl, Or.inr ⟨rfl, (Or.inl rfl)⟩⟩ ⟨by unfold r_S_isOver; rw [if_pos h1, if_neg h2], rfl, rfl⟩
  · skip
    refine mm_go 1 (Y := (8, [(0, .inr (some (19 + n))), (1, .inr (some 1))], [.inr (some (19 + n))], shW, N, 0, 0)) rfl ?_
    refine mm_gf rfl (sg_o hn) rfl (Y := (11, [(0, .inr (some (19 + n))), (1, .inr (some 1))], [.inl (N (19 + n) 2)], shW, N, 0, 0)) rfl ?_
    refine mm_go 1 (Y := (12, [(0, .inr (some (19 + n))), (1, .inr (some 1))], [.inr (some (19 + n)), .inl (N (19 + n) 2)], shW, N, 0, 0)) rfl ?_
    refine mm_gf rfl (sg_o hn) rfl (Y := (15, [(0, .inr (some (19 + n))), (1, .inr (some 1))], [.inl (N (19 + n) 1), .inl (N (19 + n) 2)], shW, N, 0, 0)) rfl ?_
    refine mm_go 1 (Y := (if (N (19 + n) 2) = (N (19 + n) 1) then 18 else 22, [(0, .inr (some (19 + n))), (1, .inr (some 1))], [], shW, N, 0, 0)) rfl ?_
    refine mm_if (fun h3 => ?_) (fun h3 => ?_)
    · skip
      refine mm_go 2 (Y := (46, [(0, .inr (some (19 + n))), (1, .inr (some 1))], [.inl 1], shW, N, 0, 0)) rfl ?_
      exact mm_rt rfl ⟨rfl, Or.inr ⟨rfl, (Or.inr rfl)⟩⟩ ⟨by unfold r_S_isOver; rw [if_neg h1, if_pos h3], rfl, rfl⟩
    · skip
      refine mm_go 2 (Y := (46, [(0, .inr (some (19 + n))), (1, .inr (some 1))], [.inl 0], shW, N, 0, 0)) rfl ?_
      exact mm_rt rfl ⟨rfl, Or.inr ⟨rfl, (Or.inl rfl)⟩⟩ ⟨by unfold r_S_isOver; rw [if_neg h1, if_neg h3], rfl, rfl⟩
def r_S_nextStep (N : mm_N) (n : Nat) : Int := if (N (19 + n) 3) = 0 then (N (19 + n) 1) else (((N (19 + n) 1) - (N (19 + n) 2)) - 1)
theorem c_S_nextStep {L : Nat} {xs : Nat → Int} (N : mm_N) (n : Nat) (hn : n < 12) (hd : 0 ≤ N (19 + n) 1 ∧ N (19 + n) 1 < 1000) (hu : 0 ≤ N (19 + n) 2 ∧ N (19 + n) 2 < 1000) : mm_Cl mm_pf mm_bd L xs mm_pr 1 32 [.inr (some (19 + n))] shW N (fun r sh N' => r = some (.inl (r_S_nextStep N n)) ∧ sh = shW ∧ N = N') := by
  refine mm_start p_S_nextStep ?_
  refine mm_go 1 (Y := (1, [(0, .inr (some (19 + n)))], [.inr (some (19 + n))], shW, N, 0, 0)) rfl ?_
  refine mm_gf rfl (sg_o hn) rfl (Y := (4, [(0, .inr (some (19 + n)))], [.inl (N (19 + n) 3)], shW, N, 0, 0)) rfl ?_
  refine mm_go 1 (Y := (if (N (19 + n) 3) = 0 then 21 else 7, [(0, .inr (some (19 + n)))], [], shW, N, 0, 0)) rfl ?_
  refine mm_if (fun h1 => ?_) (fun h1 => ?_)
  · skip
    refine mm_go 1 (Y := (22, [(0, .inr (some (19 + n)))], [.inr (some (19 + n))], shW, N, 0, 0)) rfl ?_
    refine mm_gf rfl (sg_o hn) rfl (Y := (25, [(0, .inr (some (19 + n)))], [.inl (N (19 + n) 1)], shW, N, 0, 0)) rfl ?_
    exact mm_rt rfl ⟨rfl, Or.inl rfl⟩ ⟨by unfold r_S_nextStep; rw [if_pos h1], rfl, rfl⟩
  · skip
    refine mm_go 1 (Y := (8, [(0, .inr (some (19 + n)))], [.inr (some (19 + n))], shW, N, 0, 0)) rfl ?_
    refine mm_gf rfl (sg_o hn) rfl (Y := (11, [(0, .inr (some (19 + n)))], [.inl (N (19 + n) 1)], shW, N, 0, 0)) rfl ?_
    refine mm_go 1 (Y := (12, [(0, .inr (some (19 + n)))], [.inr (some (19 + n)), .inl (N (19 + n) 1)], shW, N, 0, 0)) rfl ?_
    refine mm_gf rfl (sg_o hn) rfl (Y := (15, [(0, .inr (some (19 + n)))], [.inl (N (19 + n) 2), .inl (N (19 + n) 1)], shW, N, 0, 0)) rfl ?_
    refine mm_go 1 (Y := (16, [(0, .inr (some (19 + n)))], [.inl (mm_wr ((N (19 + n) 1) - (N (19 + n) 2)))], shW, N, 0, 0)) rfl ?_
    rw [mm_wr_id (z := (N (19 + n) 1) - (N (19 + n) 2)) (by omega) (by omega)]
    refine mm_go 2 (Y := (18, [(0, .inr (some (19 + n)))], [.inl (mm_wr (((N (19 + n) 1) - (N (19 + n) 2)) - 1))], shW, N, 0, 0)) rfl ?_
    rw [mm_wr_id (z := ((N (19 + n) 1) - (N (19 + n) 2)) - 1) (by omega) (by omega)]
    refine mm_go 1 (Y := (25, [(0, .inr (some (19 + n)))], [.inl (((N (19 + n) 1) - (N (19 + n) 2)) - 1)], shW, N, 0, 0)) rfl ?_
    exact mm_rt rfl ⟨rfl, Or.inl rfl⟩ ⟨by unfold r_S_nextStep; rw [if_neg h1], rfl, rfl⟩
def r_S_standing (N : mm_N) (n : Nat) : Int := if (N (19 + n) 3) = 0 then (if (r_S_isOver N n) = 0 then ((((10 * (N (19 + n) 1)) + (N (19 + n) 2)) + 0) + 0) else ((((10 * (N (19 + n) 1)) + (N (19 + n) 2)) + 0) + 200)) else (if (r_S_isOver N n) = 0 then ((((10 * (N (19 + n) 1)) + (N (19 + n) 2)) + 100) + 0) else ((((10 * (N (19 + n) 1)) + (N (19 + n) 2)) + 100) + 200))
theorem c_S_standing {L : Nat} {xs : Nat → Int} (N : mm_N) (n : Nat) (hn : n < 12) (hd : 0 ≤ N (19 + n) 1 ∧ N (19 + n) 1 < 1000) (hu : 0 ≤ N (19 + n) 2 ∧ N (19 + n) 2 < 1000) (hk : 0 ≤ N (19 + n) 0 ∧ N (19 + n) 0 < 4) : mm_Cl mm_pf mm_bd L xs mm_pr 3 69 [.inr (some (19 + n)), .inr (some 1)] shW N (fun r sh N' => r = some (.inl (r_S_standing N n)) ∧ sh = shW ∧ N = N') := by
  refine mm_start p_S_standing ?_
  refine mm_go 2 (Y := (3, [(0, .inr (some (19 + n))), (1, .inr (some 1))], [.inr (some (19 + n)), .inl 10], shW, N, 0, 0)) rfl ?_
  refine mm_gf rfl (sg_o hn) rfl (Y := (6, [(0, .inr (some (19 + n))), (1, .inr (some 1))], [.inl (N (19 + n) 1), .inl 10], shW, N, 0, 0)) rfl ?_
  refine mm_go 1 (Y := (7, [(0, .inr (some (19 + n))), (1, .inr (some 1))], [.inl (mm_wr (10 * (N (19 + n) 1)))], shW, N, 0, 0)) rfl ?_
  rw [mm_wr_id (z := 10 * (N (19 + n) 1)) (by omega) (by omega)]
  refine mm_go 1 (Y := (8, [(0, .inr (some (19 + n))), (1, .inr (some 1))], [.inr (some (19 + n)), .inl (10 * (N (19 + n) 1))], shW, N, 0, 0)) rfl ?_
  refine mm_gf rfl (sg_o hn) rfl (Y := (11, [(0, .inr (some (19 + n))), (1, .inr (some 1))], [.inl (N (19 + n) 2), .inl (10 * (N (19 + n) 1))], shW, N, 0, 0)) rfl ?_
  refine mm_go 1 (Y := (12, [(0, .inr (some (19 + n))), (1, .inr (some 1))], [.inl (mm_wr ((10 * (N (19 + n) 1)) + (N (19 + n) 2)))], shW, N, 0, 0)) rfl ?_
  rw [mm_wr_id (z := (10 * (N (19 + n) 1)) + (N (19 + n) 2)) (by omega) (by omega)]
  refine mm_go 1 (Y := (13, [(0, .inr (some (19 + n))), (1, .inr (some 1))], [.inr (some (19 + n)), .inl ((10 * (N (19 + n) 1)) + (N (19 + n) 2))], shW, N, 0, 0)) rfl ?_
  refine mm_gf rfl (sg_o hn) rfl (Y := (16, [(0, .inr (some (19 + n))), (1, .inr (some 1))], [.inl (N (19 + n) 3), .inl ((10 * (N (19 + n) 1)) + (N (19 + n) 2))], shW, N, 0, 0)) rfl ?_
  refine mm_go 1 (Y := (if (N (19 + n) 3) = 0 then 24 else 19, [(0, .inr (some (19 + n))), (1, .inr (some 1))], [.inl ((10 * (N (19 + n) 1)) + (N (19 + n) 2))], shW, N, 0, 0)) rfl ?_
  refine mm_if (fun h1 => ?_) (fun h1 => ?_)
  · skip
    refine mm_go 2 (Y := (26, [(0, .inr (some (19 + n))), (1, .inr (some 1))], [.inl (mm_wr (((10 * (N (19 + n) 1)) + (N (19 + n) 2)) + 0))], shW, N, 0, 0)) rfl ?_
    rw [mm_wr_id (z := ((10 * (N (19 + n) 1)) + (N (19 + n) 2)) + 0) (by omega) (by omega)]
    refine mm_go 2 (Y := (28, [(0, .inr (some (19 + n))), (1, .inr (some 1))], [.inr (some 1), .inr (some (19 + n)), .inl (((10 * (N (19 + n) 1)) + (N (19 + n) 2)) + 0)], shW, N, 0, 0)) rfl ?_
    refine mm_ca rfl ⟨⟨_, (sg_o hn)⟩, rfl, Nat.le_of_ble_eq_true rfl, Nat.le_of_ble_eq_true rfl⟩ (d' := 2) (by decide) (c_S_isOver N n (by omega) ⟨by first | omega | (simp [mm_f2_at, mm_f0_at]; omega), by first | omega | (simp [mm_f2_at, mm_f0_at]; omega)⟩) ?_
    rintro _ _ _ ⟨rfl, rfl, rfl⟩
    refine mm_go 0 (Y := (31, [(0, .inr (some (19 + n))), (1, .inr (some 1))], [.inl (r_S_isOver N n), .inl (((10 * (N (19 + n) 1)) + (N (19 + n) 2)) + 0)], shW, N, 0, 0)) rfl ?_
    refine mm_go 1 (Y := (if (r_S_isOver N n) = 0 then 40 else 34, [(0, .inr (some (19 + n))), (1, .inr (some 1))], [.inl (((10 * (N (19 + n) 1)) + (N (19 + n) 2)) + 0)], shW, N, 0, 0)) rfl ?_
    refine mm_if (fun h2 => ?_) (fun h2 => ?_)
    · skip
      refine mm_go 2 (Y := (42, [(0, .inr (some (19 + n))), (1, .inr (some 1))], [.inl (mm_wr ((((10 * (N (19 + n) 1)) + (N (19 + n) 2)) + 0) + 0))], shW, N, 0, 0)) rfl ?_
      rw [mm_wr_id (z := (((10 * (N (19 + n) 1)) + (N (19 + n) 2)) + 0) + 0) (by omega) (by omega)]
      exact mm_rt rfl ⟨rfl, Or.inl rfl⟩ ⟨by unfold r_S_standing; rw [if_pos h1, if_pos h2], rfl, rfl⟩
    · skip
      refine mm_go 3 (Y := (42, [(0, .inr (some (19 + n))), (1, .inr (some 1))], [.inl (mm_wr ((((10 * (N (19 + n) 1)) + (N (19 + n) 2)) + 0) + 200))], shW, N, 0, 0)) rfl ?_
      rw [mm_wr_id (z := (((10 * (N (19 + n) 1)) + (N (19 + n) 2)) + 0) + 200) (by omega) (by omega)]
      exact mm_rt rfl ⟨rfl, Or.inl rfl⟩ ⟨by unfold r_S_standing; rw [if_pos h1, if_neg h2], rfl, rfl⟩
  · skip
    refine mm_go 3 (Y := (26, [(0, .inr (some (19 + n))), (1, .inr (some 1))], [.inl (mm_wr (((10 * (N (19 + n) 1)) + (N (19 + n) 2)) + 100))], shW, N, 0, 0)) rfl ?_
    rw [mm_wr_id (z := ((10 * (N (19 + n) 1)) + (N (19 + n) 2)) + 100) (by omega) (by omega)]
    refine mm_go 2 (Y := (28, [(0, .inr (some (19 + n))), (1, .inr (some 1))], [.inr (some 1), .inr (some (19 + n)), .inl (((10 * (N (19 + n) 1)) + (N (19 + n) 2)) + 100)], shW, N, 0, 0)) rfl ?_
    refine mm_ca rfl ⟨⟨_, (sg_o hn)⟩, rfl, Nat.le_of_ble_eq_true rfl, Nat.le_of_ble_eq_true rfl⟩ (d' := 2) (by decide) (c_S_isOver N n (by omega) ⟨by first | omega | (simp [mm_f2_at, mm_f0_at]; omega), by first | omega | (simp [mm_f2_at, mm_f0_at]; omega)⟩) ?_
    rintro _ _ _ ⟨rfl, rfl, rfl⟩
    refine mm_go 0 (Y := (31, [(0, .inr (some (19 + n))), (1, .inr (some 1))], [.inl (r_S_isOver N n), .inl (((10 * (N (19 + n) 1)) + (N (19 + n) 2)) + 100)], shW, N, 0, 0)) rfl ?_
    refine mm_go 1 (Y := (if (r_S_isOver N n) = 0 then 40 else 34, [(0, .inr (some (19 + n))), (1, .inr (some 1))], [.inl (((10 * (N (19 + n) 1)) + (N (19 + n) 2)) + 100)], shW, N, 0, 0)) rfl ?_
    refine mm_if (fun h3 => ?_) (fun h3 => ?_)
    · skip
      refine mm_go 2 (Y := (42, [(0, .inr (some (19 + n))), (1, .inr (some 1))], [.inl (mm_wr ((((10 * (N (19 + n) 1)) + (N (19 + n) 2)) + 100) + 0))], shW, N, 0, 0)) rfl ?_
      rw [mm_wr_id (z := (((10 * (N (19 + n) 1)) + (N (19 + n) 2)) + 100) + 0) (by omega) (by omega)]
      exact mm_rt rfl ⟨rfl, Or.inl rfl⟩ ⟨by unfold r_S_standing; rw [if_neg h1, if_pos h3], rfl, rfl⟩
    · skip
      refine mm_go 3 (Y := (42, [(0, .inr (some (19 + n))), (1, .inr (some 1))], [.inl (mm_wr ((((10 * (N (19 + n) 1)) + (N (19 + n) 2)) + 100) + 200))], shW, N, 0, 0)) rfl ?_
      rw [mm_wr_id (z := (((10 * (N (19 + n) 1)) + (N (19 + n) 2)) + 100) + 200) (by omega) (by omega)]
      exact mm_rt rfl ⟨rfl, Or.inl rfl⟩ ⟨by unfold r_S_standing; rw [if_neg h1, if_neg h3], rfl, rfl⟩
theorem c_D_sagaOf {L : Nat} {xs : Nat → Int} (N : mm_N) (m : Int) (hm : 0 ≤ m ∧ m < 20000) : mm_Cl mm_pf mm_bd L xs mm_pr 1 44 [.inl m] shW N (fun r sh N' => r = some (.inl (m / 1000)) ∧ sh = shW ∧ N = N') := by
  refine mm_start p_D_sagaOf ?_
  refine mm_go 2 (Y := (4, [(0, .inl m)], [.inl 1000, .inl m], shW, N, 0, 0)) rfl ?_
  refine mm_cd (Y := (5, [(0, .inl m)], [.inl (mm_wr (m.tdiv 1000))], shW, N, 0, 0)) rfl (by decide) ?_
  rw [mm_tdiv (x := m) (n := 1000) (by omega) (by omega) (by omega)]
  exact mm_rt rfl ⟨rfl, Or.inl rfl⟩ ⟨rfl, rfl, rfl⟩
theorem c_D_stepOf {L : Nat} {xs : Nat → Int} (N : mm_N) (m : Int) (hm : 0 ≤ m ∧ m < 20000) : mm_Cl mm_pf mm_bd L xs mm_pr 1 45 [.inl m] shW N (fun r sh N' => r = some (.inl ((m / 100) % 10)) ∧ sh = shW ∧ N = N') := by
  refine mm_start p_D_stepOf ?_
  refine mm_go 2 (Y := (3, [(0, .inl m)], [.inl 100, .inl m], shW, N, 0, 0)) rfl ?_
  refine mm_cd (Y := (4, [(0, .inl m)], [.inl (mm_wr (m.tdiv 100))], shW, N, 0, 0)) rfl (by decide) ?_
  rw [mm_tdiv (x := m) (n := 100) (by omega) (by omega) (by omega)]
  refine mm_go 1 (Y := (6, [(0, .inl m)], [.inl 10, .inl (m / 100)], shW, N, 0, 0)) rfl ?_
  refine mm_cd (Y := (7, [(0, .inl m)], [.inl (mm_wr ((m / 100).tmod 10))], shW, N, 0, 0)) rfl (by decide) ?_
  rw [mm_tmod (x := m / 100) (n := 10) (by omega) (by omega) (by omega)]
  exact mm_rt rfl ⟨rfl, Or.inl rfl⟩ ⟨rfl, rfl, rfl⟩
theorem c_D_answerIn {L : Nat} {xs : Nat → Int} (N : mm_N) (m : Int) (hm : 0 ≤ m ∧ m < 20000) : mm_Cl mm_pf mm_bd L xs mm_pr 1 40 [.inl m] shW N (fun r sh N' => r = some (.inl ((m / 10) % 10)) ∧ sh = shW ∧ N = N') := by
  refine mm_start p_D_answerIn ?_
  refine mm_go 2 (Y := (3, [(0, .inl m)], [.inl 10, .inl m], shW, N, 0, 0)) rfl ?_
  refine mm_cd (Y := (4, [(0, .inl m)], [.inl (mm_wr (m.tdiv 10))], shW, N, 0, 0)) rfl (by decide) ?_
  rw [mm_tdiv (x := m) (n := 10) (by omega) (by omega) (by omega)]
  refine mm_go 1 (Y := (6, [(0, .inl m)], [.inl 10, .inl (m / 10)], shW, N, 0, 0)) rfl ?_
  refine mm_cd (Y := (7, [(0, .inl m)], [.inl (mm_wr ((m / 10).tmod 10))], shW, N, 0, 0)) rfl (by decide) ?_
  rw [mm_tmod (x := m / 10) (n := 10) (by omega) (by omega) (by omega)]
  exact mm_rt rfl ⟨rfl, Or.inl rfl⟩ ⟨rfl, rfl, rfl⟩
theorem c_D_nodeOf {L : Nat} {xs : Nat → Int} (N : mm_N) (m : Int) (hm : 0 ≤ m ∧ m < 20000) : mm_Cl mm_pf mm_bd L xs mm_pr 1 42 [.inl m] shW N (fun r sh N' => r = some (.inl ((m % 10) / 2)) ∧ sh = shW ∧ N = N') := by
  refine mm_start p_D_nodeOf ?_
  refine mm_go 2 (Y := (3, [(0, .inl m)], [.inl 10, .inl m], shW, N, 0, 0)) rfl ?_
  refine mm_cd (Y := (4, [(0, .inl m)], [.inl (mm_wr (m.tmod 10))], shW, N, 0, 0)) rfl (by decide) ?_
  rw [mm_tmod (x := m) (n := 10) (by omega) (by omega) (by omega)]
  refine mm_go 1 (Y := (5, [(0, .inl m)], [.inl 2, .inl (m % 10)], shW, N, 0, 0)) rfl ?_
  refine mm_cd (Y := (6, [(0, .inl m)], [.inl (mm_wr ((m % 10).tdiv 2))], shW, N, 0, 0)) rfl (by decide) ?_
  rw [mm_tdiv (x := m % 10) (n := 2) (by omega) (by omega) (by omega)]
  exact mm_rt rfl ⟨rfl, Or.inl rfl⟩ ⟨rfl, rfl, rfl⟩
def r_D_isToUndo (N : mm_N) (m : Int) : Int := if (m % 2) = 1 then 1 else 0
theorem c_D_isToUndo {L : Nat} {xs : Nat → Int} (N : mm_N) (m : Int) (hm : 0 ≤ m ∧ m < 20000) : mm_Cl mm_pf mm_bd L xs mm_pr 1 46 [.inl m] shW N (fun r sh N' => r = some (.inl (r_D_isToUndo N m)) ∧ sh = shW ∧ N = N') := by
  refine mm_start p_D_isToUndo ?_
  refine mm_go 2 (Y := (2, [(0, .inl m)], [.inl 2, .inl m], shW, N, 0, 0)) rfl ?_
  refine mm_cd (Y := (3, [(0, .inl m)], [.inl (mm_wr (m.tmod 2))], shW, N, 0, 0)) rfl (by decide) ?_
  rw [mm_tmod (x := m) (n := 2) (by omega) (by omega) (by omega)]
  refine mm_go 2 (Y := (if (m % 2) = 1 then 7 else 11, [(0, .inl m)], [], shW, N, 0, 0)) rfl ?_
  refine mm_if (fun h1 => ?_) (fun h1 => ?_)
  · skip
    refine mm_go 2 (Y := (12, [(0, .inl m)], [.inl 1], shW, N, 0, 0)) rfl ?_
    exact mm_rt rfl ⟨rfl, Or.inr ⟨rfl, (Or.inr rfl)⟩⟩ ⟨by unfold r_D_isToUndo; rw [if_pos h1], rfl, rfl⟩
  · skip
    refine mm_go 1 (Y := (12, [(0, .inl m)], [.inl 0], shW, N, 0, 0)) rfl ?_
    exact mm_rt rfl ⟨rfl, Or.inr ⟨rfl, (Or.inl rfl)⟩⟩ ⟨by unfold r_D_isToUndo; rw [if_neg h1], rfl, rfl⟩
theorem c_D_replyTo {L : Nat} {xs : Nat → Int} (N : mm_N) (m : Int) (v : Int) (hm : 0 ≤ m ∧ m < 20000) (hv : 0 ≤ v ∧ v < 10) : mm_Cl mm_pf mm_bd L xs mm_pr 1 48 [.inl m, .inl v] shW N (fun r sh N' => r = some (.inl (m + (10 * v))) ∧ sh = shW ∧ N = N') := by
  refine mm_start p_D_replyTo ?_
  refine mm_go 4 (Y := (5, [(0, .inl m), (1, .inl v)], [.inl (mm_wr (10 * v)), .inl m], shW, N, 0, 0)) rfl ?_
  rw [mm_wr_id (z := 10 * v) (by omega) (by omega)]
  refine mm_go 1 (Y := (6, [(0, .inl m), (1, .inl v)], [.inl (mm_wr (m + (10 * v)))], shW, N, 0, 0)) rfl ?_
  rw [mm_wr_id (z := m + (10 * v)) (by omega) (by omega)]
  exact mm_rt rfl ⟨rfl, Or.inl rfl⟩ ⟨rfl, rfl, rfl⟩
theorem c_D_requestOf {L : Nat} {xs : Nat → Int} (N : mm_N) (m : Int) (hm : 0 ≤ m ∧ m < 20000) : mm_Cl mm_pf mm_bd L xs mm_pr 2 55 [.inl m] shW N (fun r sh N' => r = some (.inl (m - (10 * ((m / 10) % 10)))) ∧ sh = shW ∧ N = N') := by
  refine mm_start p_D_requestOf ?_
  refine mm_go 3 (Y := (4, [(0, .inl m)], [.inl m, .inl 10, .inl m], shW, N, 0, 0)) rfl ?_
  refine mm_ca rfl ⟨Nat.le_of_ble_eq_true rfl, rfl, Nat.le_of_ble_eq_true rfl, Nat.le_of_ble_eq_true rfl⟩ (d' := 1) (by decide) (c_D_answerIn N m ⟨by omega, by omega⟩) ?_
  rintro _ _ _ ⟨rfl, rfl, rfl⟩
  refine mm_go 0 (Y := (7, [(0, .inl m)], [.inl ((m / 10) % 10), .inl 10, .inl m], shW, N, 0, 0)) rfl ?_
  refine mm_go 1 (Y := (8, [(0, .inl m)], [.inl (mm_wr (10 * ((m / 10) % 10))), .inl m], shW, N, 0, 0)) rfl ?_
  rw [mm_wr_id (z := 10 * ((m / 10) % 10)) (by omega) (by omega)]
  refine mm_go 1 (Y := (9, [(0, .inl m)], [.inl (mm_wr (m - (10 * ((m / 10) % 10))))], shW, N, 0, 0)) rfl ?_
  rw [mm_wr_id (z := m - (10 * ((m / 10) % 10))) (by omega) (by omega)]
  exact mm_rt rfl ⟨rfl, Or.inl rfl⟩ ⟨rfl, rfl, rfl⟩
def r_D_nameOf (N : mm_N) (m : Int) : Int := if (r_D_isToUndo N m) = 0 then ((2 * ((4 * (m / 1000)) + ((m / 100) % 10))) + 0) else ((2 * ((4 * (m / 1000)) + ((m / 100) % 10))) + 1)
theorem c_D_nameOf {L : Nat} {xs : Nat → Int} (N : mm_N) (m : Int) (hm : 0 ≤ m ∧ m < 20000) : mm_Cl mm_pf mm_bd L xs mm_pr 2 43 [.inl m] shW N (fun r sh N' => r = some (.inl (r_D_nameOf N m)) ∧ sh = shW ∧ N = N') := by
  refine mm_start p_D_nameOf ?_
  refine mm_go 3 (Y := (3, [(0, .inl m)], [.inl m, .inl 4, .inl 2], shW, N, 0, 0)) rfl ?_
  refine mm_ca rfl ⟨Nat.le_of_ble_eq_true rfl, rfl, Nat.le_of_ble_eq_true rfl, Nat.le_of_ble_eq_true rfl⟩ (d' := 1) (by decide) (c_D_sagaOf N m ⟨by omega, by omega⟩) ?_
  rintro _ _ _ ⟨rfl, rfl, rfl⟩
  refine mm_go 0 (Y := (6, [(0, .inl m)], [.inl (m / 1000), .inl 4, .inl 2], shW, N, 0, 0)) rfl ?_
  refine mm_go 1 (Y := (7, [(0, .inl m)], [.inl (mm_wr (4 * (m / 1000))), .inl 2], shW, N, 0, 0)) rfl ?_
  rw [mm_wr_id (z := 4 * (m / 1000)) (by omega) (by omega)]
  refine mm_go 1 (Y := (8, [(0, .inl m)], [.inl m, .inl (4 * (m / 1000)), .inl 2], shW, N, 0, 0)) rfl ?_
  refine mm_ca rfl ⟨Nat.le_of_ble_eq_true rfl, rfl, Nat.le_of_ble_eq_true rfl, Nat.le_of_ble_eq_true rfl⟩ (d' := 1) (by decide) (c_D_stepOf N m ⟨by omega, by omega⟩) ?_
  rintro _ _ _ ⟨rfl, rfl, rfl⟩
  refine mm_go 0 (Y := (11, [(0, .inl m)], [.inl ((m / 100) % 10), .inl (4 * (m / 1000)), .inl 2], shW, N, 0, 0)) rfl ?_
  refine mm_go 1 (Y := (12, [(0, .inl m)], [.inl (mm_wr ((4 * (m / 1000)) + ((m / 100) % 10))), .inl 2], shW, N, 0, 0)) rfl ?_
  rw [mm_wr_id (z := (4 * (m / 1000)) + ((m / 100) % 10)) (by omega) (by omega)]
  refine mm_go 1 (Y := (13, [(0, .inl m)], [.inl (mm_wr (2 * ((4 * (m / 1000)) + ((m / 100) % 10))))], shW, N, 0, 0)) rfl ?_
  rw [mm_wr_id (z := 2 * ((4 * (m / 1000)) + ((m / 100) % 10))) (by omega) (by omega)]
  refine mm_go 1 (Y := (14, [(0, .inl m)], [.inl m, .inl (2 * ((4 * (m / 1000)) + ((m / 100) % 10)))], shW, N, 0, 0)) rfl ?_
  refine mm_ca rfl ⟨Nat.le_of_ble_eq_true rfl, rfl, Nat.le_of_ble_eq_true rfl, Nat.le_of_ble_eq_true rfl⟩ (d' := 1) (by decide) (c_D_isToUndo N m ⟨by omega, by omega⟩) ?_
  rintro _ _ _ ⟨rfl, rfl, rfl⟩
  refine mm_go 0 (Y := (17, [(0, .inl m)], [.inl (r_D_isToUndo N m), .inl (2 * ((4 * (m / 1000)) + ((m / 100) % 10)))], shW, N, 0, 0)) rfl ?_
  refine mm_go 1 (Y := (if (r_D_isToUndo N m) = 0 then 24 else 20, [(0, .inl m)], [.inl (2 * ((4 * (m / 1000)) + ((m / 100) % 10)))], shW, N, 0, 0)) rfl ?_
  refine mm_if (fun h1 => ?_) (fun h1 => ?_)
  · skip
    refine mm_go 2 (Y := (26, [(0, .inl m)], [.inl (mm_wr ((2 * ((4 * (m / 1000)) + ((m / 100) % 10))) + 0))], shW, N, 0, 0)) rfl ?_
    rw [mm_wr_id (z := (2 * ((4 * (m / 1000)) + ((m / 100) % 10))) + 0) (by omega) (by omega)]
    exact mm_rt rfl ⟨rfl, Or.inl rfl⟩ ⟨by unfold r_D_nameOf; rw [if_pos h1], rfl, rfl⟩
  · skip
    refine mm_go 3 (Y := (26, [(0, .inl m)], [.inl (mm_wr ((2 * ((4 * (m / 1000)) + ((m / 100) % 10))) + 1))], shW, N, 0, 0)) rfl ?_
    rw [mm_wr_id (z := (2 * ((4 * (m / 1000)) + ((m / 100) % 10))) + 1) (by omega) (by omega)]
    exact mm_rt rfl ⟨rfl, Or.inl rfl⟩ ⟨by unfold r_D_nameOf; rw [if_neg h1], rfl, rfl⟩
def r_D_recordFor (N : mm_N) (m : Int) : Int := if (r_D_isToUndo N m) = 0 then (if ((m / 10) % 10) = 2 then 2 else 3) else 4
theorem c_D_recordFor {L : Nat} {xs : Nat → Int} (N : mm_N) (m : Int) (hm : 0 ≤ m ∧ m < 20000) : mm_Cl mm_pf mm_bd L xs mm_pr 2 56 [.inl m] shW N (fun r sh N' => r = some (.inl (r_D_recordFor N m)) ∧ sh = shW ∧ N = N') := by
  refine mm_start p_D_recordFor ?_
  refine mm_go 1 (Y := (1, [(0, .inl m)], [.inl m], shW, N, 0, 0)) rfl ?_
  refine mm_ca rfl ⟨Nat.le_of_ble_eq_true rfl, rfl, Nat.le_of_ble_eq_true rfl, Nat.le_of_ble_eq_true rfl⟩ (d' := 1) (by decide) (c_D_isToUndo N m ⟨by omega, by omega⟩) ?_
  rintro _ _ _ ⟨rfl, rfl, rfl⟩
  refine mm_go 0 (Y := (4, [(0, .inl m)], [.inl (r_D_isToUndo N m)], shW, N, 0, 0)) rfl ?_
  refine mm_go 1 (Y := (if (r_D_isToUndo N m) = 0 then 9 else 7, [(0, .inl m)], [], shW, N, 0, 0)) rfl ?_
  refine mm_if (fun h1 => ?_) (fun h1 => ?_)
  · skip
    refine mm_go 1 (Y := (10, [(0, .inl m)], [.inl m], shW, N, 0, 0)) rfl ?_
    refine mm_ca rfl ⟨Nat.le_of_ble_eq_true rfl, rfl, Nat.le_of_ble_eq_true rfl, Nat.le_of_ble_eq_true rfl⟩ (d' := 1) (by decide) (c_D_answerIn N m ⟨by omega, by omega⟩) ?_
    rintro _ _ _ ⟨rfl, rfl, rfl⟩
    refine mm_go 0 (Y := (13, [(0, .inl m)], [.inl ((m / 10) % 10)], shW, N, 0, 0)) rfl ?_
    refine mm_go 2 (Y := (if ((m / 10) % 10) = 2 then 17 else 21, [(0, .inl m)], [], shW, N, 0, 0)) rfl ?_
    refine mm_if (fun h2 => ?_) (fun h2 => ?_)
    · skip
      refine mm_go 2 (Y := (22, [(0, .inl m)], [.inl 2], shW, N, 0, 0)) rfl ?_
      exact mm_rt rfl ⟨rfl, Or.inl rfl⟩ ⟨by unfold r_D_recordFor; rw [if_pos h1, if_pos h2], rfl, rfl⟩
    · skip
      refine mm_go 1 (Y := (22, [(0, .inl m)], [.inl 3], shW, N, 0, 0)) rfl ?_
      exact mm_rt rfl ⟨rfl, Or.inl rfl⟩ ⟨by unfold r_D_recordFor; rw [if_pos h1, if_neg h2], rfl, rfl⟩
  · skip
    refine mm_go 1 (Y := (8, [(0, .inl m)], [.inl 4], shW, N, 0, 0)) rfl ?_
    exact mm_rt rfl ⟨rfl, Or.inl rfl⟩ ⟨by unfold r_D_recordFor; rw [if_neg h1], rfl, rfl⟩
theorem c_G_append2 {L : Nat} {xs : Nat → Int} (N : mm_N) (t : Int) (g : Int) (v : Int) (hc : 0 ≤ N 16 1 ∧ N 16 1 < 289) (hroom : ¬ 288 < ((N 16 1) + 3)) : mm_Cl mm_pf mm_bd L xs mm_pr 1 15 [.inr (some 16), .inl t, .inl g, .inl v] shW N (fun r sh N' => r = none ∧ sh = shW ∧ (mm_f2 (mm_f2 (mm_f2 (mm_f2 N 17 ((N 16 1).toNat) t) 17 (((N 16 1) + 1).toNat) g) 17 (((N 16 1) + 2).toNat) v) 16 1 ((N 16 1) + 3)) = N') := by
  refine mm_start p_G_append ?_
  refine mm_go 4 (Y := (6, [(0, .inr (some 16)), (1, .inl t), (2, .inl g), (3, .inl v)], [.inl (mm_wr ((N 16 1) + 3))], shW, N, 0, 0)) rfl ?_
  rw [mm_wr_id (z := (N 16 1) + 3) (by omega) (by omega)]
  refine mm_go 2 (Y := (if 288 < ((N 16 1) + 3) then 12 else 13, [(0, .inr (some 16)), (1, .inl t), (2, .inl g), (3, .inl v)], [], shW, N, 0, 0)) rfl ?_
  rw [if_neg hroom]
  refine mm_go 5 (Y := (22, [(0, .inr (some 16)), (1, .inl t), (2, .inl g), (3, .inl v)], [.inl t, .inl (N 16 1), .inr (some 17)], shW, N, 0, 0)) rfl ?_
  refine mm_cd (Y := (23, [(0, .inr (some 16)), (1, .inl t), (2, .inl g), (3, .inl v)], [], shW, (mm_f2 N 17 ((N 16 1).toNat) t), 0, 0)) rfl ⟨by omega, by omega⟩ ?_
  refine mm_go 6 (Y := (33, [(0, .inr (some 16)), (1, .inl t), (2, .inl g), (3, .inl v)], [.inl (mm_wr ((N 16 1) + 1)), .inr (some 17)], shW, (mm_f2 N 17 ((N 16 1).toNat) t), 0, 0)) rfl ?_
  rw [mm_wr_id (z := (N 16 1) + 1) (by omega) (by omega)]
  refine mm_go 1 (Y := (34, [(0, .inr (some 16)), (1, .inl t), (2, .inl g), (3, .inl v)], [.inl g, .inl ((N 16 1) + 1), .inr (some 17)], shW, (mm_f2 N 17 ((N 16 1).toNat) t), 0, 0)) rfl ?_
  refine mm_cd (Y := (35, [(0, .inr (some 16)), (1, .inl t), (2, .inl g), (3, .inl v)], [], shW, (mm_f2 (mm_f2 N 17 ((N 16 1).toNat) t) 17 (((N 16 1) + 1).toNat) g), 0, 0)) rfl ⟨by omega, by omega⟩ ?_
  refine mm_go 6 (Y := (45, [(0, .inr (some 16)), (1, .inl t), (2, .inl g), (3, .inl v)], [.inl (mm_wr ((N 16 1) + 2)), .inr (some 17)], shW, (mm_f2 (mm_f2 N 17 ((N 16 1).toNat) t) 17 (((N 16 1) + 1).toNat) g), 0, 0)) rfl ?_
  rw [mm_wr_id (z := (N 16 1) + 2) (by omega) (by omega)]
  refine mm_go 1 (Y := (46, [(0, .inr (some 16)), (1, .inl t), (2, .inl g), (3, .inl v)], [.inl v, .inl ((N 16 1) + 2), .inr (some 17)], shW, (mm_f2 (mm_f2 N 17 ((N 16 1).toNat) t) 17 (((N 16 1) + 1).toNat) g), 0, 0)) rfl ?_
  refine mm_cd (Y := (47, [(0, .inr (some 16)), (1, .inl t), (2, .inl g), (3, .inl v)], [], shW, (mm_f2 (mm_f2 (mm_f2 N 17 ((N 16 1).toNat) t) 17 (((N 16 1) + 1).toNat) g) 17 (((N 16 1) + 2).toNat) v), 0, 0)) rfl ⟨by omega, by omega⟩ ?_
  refine mm_go 5 (Y := (54, [(0, .inr (some 16)), (1, .inl t), (2, .inl g), (3, .inl v)], [.inl (mm_wr ((N 16 1) + 3)), .inr (some 16)], shW, (mm_f2 (mm_f2 (mm_f2 N 17 ((N 16 1).toNat) t) 17 (((N 16 1) + 1).toNat) g) 17 (((N 16 1) + 2).toNat) v), 0, 0)) rfl ?_
  rw [mm_wr_id (z := (N 16 1) + 3) (by omega) (by omega)]
  refine mm_go 1 (Y := (57, [(0, .inr (some 16)), (1, .inl t), (2, .inl g), (3, .inl v)], [], shW, (mm_f2 (mm_f2 (mm_f2 (mm_f2 N 17 ((N 16 1).toNat) t) 17 (((N 16 1) + 1).toNat) g) 17 (((N 16 1) + 2).toNat) v) 16 1 ((N 16 1) + 3)), 0, 0)) rfl ?_
  exact mm_rt rfl rfl ⟨rfl, rfl, rfl⟩
