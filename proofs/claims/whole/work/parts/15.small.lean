/-! the picture of both objects -/
def shW : List mm_S := [(0, 0, [some (some 1), some (some 6), some (some 13), some (some 14), some (some 16), some (some 18), none, none]), (0, 1, [some (some 2), some (some 3), some (some 4), some (some 5)]), (1, 4, []), (1, 16, []), (1, 16, []), (1, 16, []), (3, 2, [some (some 7), some (some 10)]), (0, 2, [some (some 8), some (some 9), none]), (1, 8, []), (1, 96, []), (0, 2, [some (some 11), some (some 12), none]), (1, 8, []), (1, 96, []), (2, 3, []), (0, 3, [some (some 15), none]), (1, 24, []), (0, 4, [some (some 17), none, none]), (1, 288, []), (4, 12, [some (some 19), some (some 20), some (some 21), some (some 22), some (some 23), some (some 24), some (some 25), some (some 26), some (some 27), some (some 28), some (some 29), some (some 30)]), (0, 5, [none, none, none, none, none]), (0, 5, [none, none, none, none, none]), (0, 5, [none, none, none, none, none]), (0, 5, [none, none, none, none, none]), (0, 5, [none, none, none, none, none]), (0, 5, [none, none, none, none, none]), (0, 5, [none, none, none, none, none]), (0, 5, [none, none, none, none, none]), (0, 5, [none, none, none, none, none]), (0, 5, [none, none, none, none, none]), (0, 5, [none, none, none, none, none]), (0, 5, [none, none, none, none, none]), (0, 6, [some (some 32), some (some 33), some (some 34), some (some 35), none, some (some 36), some (some 37), some (some 38), none, none, none, some (some 39), some (some 40), some (some 41), some (some 42), some (some 43), none, none, none, none, none]), (1, 4, []), (1, 16, []), (1, 16, []), (1, 16, []), (1, 16, []), (2, 3, []), (1, 288, []), (1, 24, []), (1, 24, []), (1, 24, []), (1, 24, []), (1, 96, [])]
theorem sv_at {i : Int} (h0 : 0 ≤ i) (h1 : i < 2) : ([some (some 7), some (some 10)] : List (Option (Option Nat)))[i.toNat]? = some (some (some (7 + 3 * i.toNat))) := by
  have h : i = 0 ∨ i = 1 := by omega
  rcases h with rfl | rfl <;> rfl
theorem sv_o {n : Nat} (h : n < 2) : shW[7 + 3 * n]? = some (0, 2, [some (some (8 + 3 * n)), some (some (9 + 3 * n)), none]) := by
  have h : n = 0 ∨ n = 1 := by omega
  rcases h with rfl | rfl <;> rfl
theorem sv_s {n : Nat} (h : n < 2) : shW[8 + 3 * n]? = some (1, 8, []) := by
  have h : n = 0 ∨ n = 1 := by omega
  rcases h with rfl | rfl <;> rfl
theorem sv_a {n : Nat} (h : n < 2) : shW[9 + 3 * n]? = some (1, 96, []) := by
  have h : n = 0 ∨ n = 1 := by omega
  rcases h with rfl | rfl <;> rfl
theorem sg_at {i : Int} (h0 : 0 ≤ i) (h1 : i < 12) : ([some (some 19), some (some 20), some (some 21), some (some 22), some (some 23), some (some 24), some (some 25), some (some 26), some (some 27), some (some 28), some (some 29), some (some 30)] : List (Option (Option Nat)))[i.toNat]? = some (some (some (19 + i.toNat))) := by
  have h : i = 0 ∨ i = 1 ∨ i = 2 ∨ i = 3 ∨ i = 4 ∨ i = 5 ∨ i = 6 ∨ i = 7 ∨ i = 8 ∨ i = 9 ∨ i = 10 ∨ i = 11 := by omega
  rcases h with rfl | rfl | rfl | rfl | rfl | rfl | rfl | rfl | rfl | rfl | rfl | rfl <;> rfl
theorem sg_o {n : Nat} (h : n < 12) : shW[19 + n]? = some (0, 5, [none, none, none, none, none]) := by
  have h : n = 0 ∨ n = 1 ∨ n = 2 ∨ n = 3 ∨ n = 4 ∨ n = 5 ∨ n = 6 ∨ n = 7 ∨ n = 8 ∨ n = 9 ∨ n = 10 ∨ n = 11 := by omega
  rcases h with rfl | rfl | rfl | rfl | rfl | rfl | rfl | rfl | rfl | rfl | rfl | rfl <;> rfl
def r_D_isBelow (N : mm_N) (v : Int) (w : Int) : Int := if v < 0 then 0 else (if v < w then 1 else 0)
theorem c_D_isBelow {L : Nat} {xs : Nat → Int} (N : mm_N) (v : Int) (w : Int) : mm_Cl mm_pf mm_bd L xs mm_pr 1 7 [.inl v, .inl w] shW N (fun r sh N' => r = some (.inl (r_D_isBelow N v w)) ∧ sh = shW ∧ N = N') := by
  refine mm_start p_D_isBelow ?_
  refine mm_go 2 (Y := (if v < 0 then 13 else 4, [(0, .inl v), (1, .inl w)], [], shW, N, 0, 0)) rfl ?_
  refine mm_if (fun h1 => ?_) (fun h1 => ?_)
  · skip
    refine mm_go 1 (Y := (14, [(0, .inl v), (1, .inl w)], [.inl 0], shW, N, 0, 0)) rfl ?_
    exact mm_rt rfl ⟨rfl, Or.inr ⟨rfl, (Or.inl rfl)⟩⟩ ⟨by unfold r_D_isBelow; rw [if_pos h1], rfl, rfl⟩
  · skip
    refine mm_go 3 (Y := (if v < w then 9 else 13, [(0, .inl v), (1, .inl w)], [], shW, N, 0, 0)) rfl ?_
    refine mm_if (fun h2 => ?_) (fun h2 => ?_)
    · skip
      refine mm_go 2 (Y := (14, [(0, .inl v), (1, .inl w)], [.inl 1], shW, N, 0, 0)) rfl ?_
      exact mm_rt rfl ⟨rfl, Or.inr ⟨rfl, (Or.inr rfl)⟩⟩ ⟨by unfold r_D_isBelow; rw [if_neg h1, if_pos h2], rfl, rfl⟩
    · skip
      refine mm_go 1 (Y := (14, [(0, .inl v), (1, .inl w)], [.inl 0], shW, N, 0, 0)) rfl ?_
      exact mm_rt rfl ⟨rfl, Or.inr ⟨rfl, (Or.inl rfl)⟩⟩ ⟨by unfold r_D_isBelow; rw [if_neg h1, if_neg h2], rfl, rfl⟩
theorem b_isBelow {N : mm_N} {v w : Int} (h : ¬ r_D_isBelow N v w = 0) : 0 ≤ v ∧ v < w := by
  unfold r_D_isBelow at h
  split at h <;> (try split at h) <;> omega
theorem c_K_stepCount {L : Nat} {xs : Nat → Int} (N : mm_N) (k : Int) (hk : 0 ≤ k ∧ k < 4) : mm_Cl mm_pf mm_bd L xs mm_pr 1 8 [.inr (some 1), .inl k] shW N (fun r sh N' => r = some (.inl (N 2 (k.toNat))) ∧ sh = shW ∧ N = N') := by
  refine mm_start p_K_stepCount ?_
  refine mm_go 3 (Y := (5, [(0, .inr (some 1)), (1, .inl k)], [.inl k, .inr (some 2)], shW, N, 0, 0)) rfl ?_
  refine mm_cd (Y := (6, [(0, .inr (some 1)), (1, .inl k)], [.inl (N 2 (k.toNat))], shW, N, 0, 0)) rfl ⟨by omega, by omega⟩ ?_
  exact mm_rt rfl ⟨rfl, Or.inl rfl⟩ ⟨rfl, rfl, rfl⟩
theorem c_K_slot {L : Nat} {xs : Nat → Int} (N : mm_N) (k : Int) (p : Int) (hk : 0 ≤ k ∧ k < 4) (hp : 0 ≤ p ∧ p < 5) : mm_Cl mm_pf mm_bd L xs mm_pr 1 10 [.inr (some 1), .inl k, .inl p] shW N (fun r sh N' => r = some (.inl ((4 * k) + p)) ∧ sh = shW ∧ N = N') := by
  refine mm_start p_K_slot ?_
  refine mm_go 3 (Y := (3, [(0, .inr (some 1)), (1, .inl k), (2, .inl p)], [.inl (mm_wr (4 * k))], shW, N, 0, 0)) rfl ?_
  rw [mm_wr_id (z := 4 * k) (by omega) (by omega)]
  refine mm_go 2 (Y := (5, [(0, .inr (some 1)), (1, .inl k), (2, .inl p)], [.inl (mm_wr ((4 * k) + p))], shW, N, 0, 0)) rfl ?_
  rw [mm_wr_id (z := (4 * k) + p) (by omega) (by omega)]
  exact mm_rt rfl ⟨rfl, Or.inl rfl⟩ ⟨rfl, rfl, rfl⟩
def r_K_nodeAt (N : mm_N) (p : Int) : Int := if (N 3 (p.toNat)) = 2 then 1 else 0
theorem c_K_nodeAt {L : Nat} {xs : Nat → Int} (N : mm_N) (p : Int) (hp : 0 ≤ p ∧ p < 16) : mm_Cl mm_pf mm_bd L xs mm_pr 1 34 [.inr (some 1), .inl p] shW N (fun r sh N' => r = some (.inl (r_K_nodeAt N p)) ∧ sh = shW ∧ N = N') := by
  refine mm_start p_K_nodeAt ?_
  refine mm_go 3 (Y := (5, [(0, .inr (some 1)), (1, .inl p)], [.inl p, .inr (some 3)], shW, N, 0, 0)) rfl ?_
  refine mm_cd (Y := (6, [(0, .inr (some 1)), (1, .inl p)], [.inl (N 3 (p.toNat))], shW, N, 0, 0)) rfl ⟨by omega, by omega⟩ ?_
  refine mm_go 2 (Y := (if (N 3 (p.toNat)) = 2 then 10 else 14, [(0, .inr (some 1)), (1, .inl p)], [], shW, N, 0, 0)) rfl ?_
  refine mm_if (fun h1 => ?_) (fun h1 => ?_)
  · skip
    refine mm_go 2 (Y := (15, [(0, .inr (some 1)), (1, .inl p)], [.inl 1], shW, N, 0, 0)) rfl ?_
    exact mm_rt rfl ⟨rfl, Or.inl rfl⟩ ⟨by unfold r_K_nodeAt; rw [if_pos h1], rfl, rfl⟩
  · skip
    refine mm_go 1 (Y := (15, [(0, .inr (some 1)), (1, .inl p)], [.inl 0], shW, N, 0, 0)) rfl ?_
    exact mm_rt rfl ⟨rfl, Or.inl rfl⟩ ⟨by unfold r_K_nodeAt; rw [if_neg h1], rfl, rfl⟩
theorem c_K_thingAt {L : Nat} {xs : Nat → Int} (N : mm_N) (p : Int) (hp : 0 ≤ p ∧ p < 16) : mm_Cl mm_pf mm_bd L xs mm_pr 1 50 [.inr (some 1), .inl p] shW N (fun r sh N' => r = some (.inl (N 4 (p.toNat))) ∧ sh = shW ∧ N = N') := by
  refine mm_start p_K_thingAt ?_
  refine mm_go 3 (Y := (5, [(0, .inr (some 1)), (1, .inl p)], [.inl p, .inr (some 4)], shW, N, 0, 0)) rfl ?_
  refine mm_cd (Y := (6, [(0, .inr (some 1)), (1, .inl p)], [.inl (N 4 (p.toNat))], shW, N, 0, 0)) rfl ⟨by omega, by omega⟩ ?_
  exact mm_rt rfl ⟨rfl, Or.inl rfl⟩ ⟨rfl, rfl, rfl⟩
def r_K_isAllowed (N : mm_N) (p : Int) (v : Int) : Int := if (N 3 (p.toNat)) = 1 then (if 1000 < (mm_wr (v + (N 5 (p.toNat)))) then 0 else 1) else (if v < (N 5 (p.toNat)) then 0 else 1)
theorem c_K_isAllowed {L : Nat} {xs : Nat → Int} (N : mm_N) (p : Int) (v : Int) (hp : 0 ≤ p ∧ p < 16) : mm_Cl mm_pf mm_bd L xs mm_pr 1 52 [.inr (some 1), .inl p, .inl v] shW N (fun r sh N' => r = some (.inl (r_K_isAllowed N p v)) ∧ sh = shW ∧ N = N') := by
  refine mm_start p_K_isAllowed ?_
  refine mm_go 3 (Y := (5, [(0, .inr (some 1)), (1, .inl p), (2, .inl v)], [.inl p, .inr (some 3)], shW, N, 0, 0)) rfl ?_
  refine mm_cd (Y := (6, [(0, .inr (some 1)), (1, .inl p), (2, .inl v)], [.inl (N 3 (p.toNat))], shW, N, 0, 0)) rfl ⟨by omega, by omega⟩ ?_
  refine mm_go 2 (Y := (if (N 3 (p.toNat)) = 1 then 10 else 32, [(0, .inr (some 1)), (1, .inl p), (2, .inl v)], [], shW, N, 0, 0)) rfl ?_
  refine mm_if (fun h1 => ?_) (fun h1 => ?_)
  · skip
    refine mm_go 4 (Y := (16, [(0, .inr (some 1)), (1, .inl p), (2, .inl v)], [.inl p, .inr (some 5), .inl v], shW, N, 0, 0)) rfl ?_
    refine mm_cd (Y := (17, [(0, .inr (some 1)), (1, .inl p), (2, .inl v)], [.inl (N 5 (p.toNat)), .inl v], shW, N, 0, 0)) rfl ⟨by omega, by omega⟩ ?_
    refine mm_go 3 (Y := (if 1000 < (mm_wr (v + (N 5 (p.toNat)))) then 28 else 24, [(0, .inr (some 1)), (1, .inl p), (2, .inl v)], [], shW, N, 0, 0)) rfl ?_
    refine mm_if (fun h2 => ?_) (fun h2 => ?_)
    · skip
      refine mm_go 2 (Y := (47, [(0, .inr (some 1)), (1, .inl p), (2, .inl v)], [.inl 0], shW, N, 0, 0)) rfl ?_
      exact mm_rt rfl ⟨rfl, Or.inr ⟨rfl, (Or.inl rfl)⟩⟩ ⟨by unfold r_K_isAllowed; rw [if_pos h1, if_pos h2], rfl, rfl⟩
    · skip
      refine mm_go 2 (Y := (47, [(0, .inr (some 1)), (1, .inl p), (2, .inl v)], [.inl 1], shW, N, 0, 0)) rfl ?_
      exact mm_rt rfl ⟨rfl, Or.inr ⟨rfl, (Or.inr rfl)⟩⟩ ⟨by unfold r_K_isAllowed; rw [if_pos h1, if_neg h2], rfl, rfl⟩
  · skip
    refine mm_go 4 (Y := (38, [(0, .inr (some 1)), (1, .inl p), (2, .inl v)], [.inl p, .inr (some 5), .inl v], shW, N, 0, 0)) rfl ?_
    refine mm_cd (Y := (39, [(0, .inr (some 1)), (1, .inl p), (2, .inl v)], [.inl (N 5 (p.toNat)), .inl v], shW, N, 0, 0)) rfl ⟨by omega, by omega⟩ ?_
    refine mm_go 1 (Y := (if v < (N 5 (p.toNat)) then 46 else 42, [(0, .inr (some 1)), (1, .inl p), (2, .inl v)], [], shW, N, 0, 0)) rfl ?_
    refine mm_if (fun h3 => ?_) (fun h3 => ?_)
    · skip
      refine mm_go 1 (Y := (47, [(0, .inr (some 1)), (1, .inl p), (2, .inl v)], [.inl 0], shW, N, 0, 0)) rfl ?_
      exact mm_rt rfl ⟨rfl, Or.inr ⟨rfl, (Or.inl rfl)⟩⟩ ⟨by unfold r_K_isAllowed; rw [if_neg h1, if_pos h3], rfl, rfl⟩
    · skip
      refine mm_go 2 (Y := (47, [(0, .inr (some 1)), (1, .inl p), (2, .inl v)], [.inl 1], shW, N, 0, 0)) rfl ?_
      exact mm_rt rfl ⟨rfl, Or.inr ⟨rfl, (Or.inr rfl)⟩⟩ ⟨by unfold r_K_isAllowed; rw [if_neg h1, if_neg h3], rfl, rfl⟩
def r_K_changeBy (N : mm_N) (p : Int) : Int := if (N 3 (p.toNat)) = 1 then (N 5 (p.toNat)) else (mm_wr (-(N 5 (p.toNat))))
theorem c_K_changeBy {L : Nat} {xs : Nat → Int} (N : mm_N) (p : Int) (hp : 0 ≤ p ∧ p < 16) : mm_Cl mm_pf mm_bd L xs mm_pr 1 51 [.inr (some 1), .inl p] shW N (fun r sh N' => r = some (.inl (r_K_changeBy N p)) ∧ sh = shW ∧ N = N') := by
  refine mm_start p_K_changeBy ?_
  refine mm_go 3 (Y := (5, [(0, .inr (some 1)), (1, .inl p)], [.inl p, .inr (some 3)], shW, N, 0, 0)) rfl ?_
  refine mm_cd (Y := (6, [(0, .inr (some 1)), (1, .inl p)], [.inl (N 3 (p.toNat))], shW, N, 0, 0)) rfl ⟨by omega, by omega⟩ ?_
  refine mm_go 2 (Y := (if (N 3 (p.toNat)) = 1 then 10 else 19, [(0, .inr (some 1)), (1, .inl p)], [], shW, N, 0, 0)) rfl ?_
  refine mm_if (fun h1 => ?_) (fun h1 => ?_)
  · skip
    refine mm_go 3 (Y := (15, [(0, .inr (some 1)), (1, .inl p)], [.inl p, .inr (some 5)], shW, N, 0, 0)) rfl ?_
    refine mm_cd (Y := (16, [(0, .inr (some 1)), (1, .inl p)], [.inl (N 5 (p.toNat))], shW, N, 0, 0)) rfl ⟨by omega, by omega⟩ ?_
    refine mm_go 1 (Y := (26, [(0, .inr (some 1)), (1, .inl p)], [.inl (N 5 (p.toNat))], shW, N, 0, 0)) rfl ?_
    exact mm_rt rfl ⟨rfl, Or.inl rfl⟩ ⟨by unfold r_K_changeBy; rw [if_pos h1], rfl, rfl⟩
  · skip
    refine mm_go 3 (Y := (24, [(0, .inr (some 1)), (1, .inl p)], [.inl p, .inr (some 5)], shW, N, 0, 0)) rfl ?_
    refine mm_cd (Y := (25, [(0, .inr (some 1)), (1, .inl p)], [.inl (N 5 (p.toNat))], shW, N, 0, 0)) rfl ⟨by omega, by omega⟩ ?_
    refine mm_go 1 (Y := (26, [(0, .inr (some 1)), (1, .inl p)], [.inl (mm_wr (-(N 5 (p.toNat))))], shW, N, 0, 0)) rfl ?_
    exact mm_rt rfl ⟨rfl, Or.inl rfl⟩ ⟨by unfold r_K_changeBy; rw [if_neg h1], rfl, rfl⟩
theorem c_K_append {L : Nat} {xs : Nat → Int} (N : mm_N) (k : Int) (o : Int) (t : Int) (v : Int) (hk : 0 ≤ k ∧ k < 4) (hc : 0 ≤ N 2 k.toNat ∧ N 2 k.toNat < 4) : mm_Cl mm_pf mm_bd L xs mm_pr 2 9 [.inr (some 1), .inl k, .inl o, .inl t, .inl v] shW N (fun r sh N' => r = some (.inl (N 2 (k.toNat))) ∧ sh = shW ∧ (mm_f2 (mm_f2 (mm_f2 (mm_f2 N 3 (((4 * k) + (N 2 (k.toNat))).toNat) o) 4 (((4 * k) + (N 2 (k.toNat))).toNat) t) 5 (((4 * k) + (N 2 (k.toNat))).toNat) v) 2 (k.toNat) ((N 2 (k.toNat)) + 1)) = N') := by
  refine mm_start p_K_append ?_
  refine mm_go 3 (Y := (5, [(0, .inr (some 1)), (1, .inl k), (2, .inl o), (3, .inl t), (4, .inl v)], [.inl k, .inr (some 2)], shW, N, 0, 0)) rfl ?_
  refine mm_cd (Y := (6, [(0, .inr (some 1)), (1, .inl k), (2, .inl o), (3, .inl t), (4, .inl v)], [.inl (N 2 (k.toNat))], shW, N, 0, 0)) rfl ⟨by omega, by omega⟩ ?_
  refine mm_go 4 (Y := (12, [(5, .inl (N 2 (k.toNat))), (0, .inr (some 1)), (1, .inl k), (2, .inl o), (3, .inl t), (4, .inl v)], [.inl (N 2 (k.toNat)), .inl k, .inr (some 1)], shW, N, 0, 0)) rfl ?_
  refine mm_ca rfl ⟨⟨_, rfl⟩, rfl, Nat.le_of_ble_eq_true rfl, Nat.le_of_ble_eq_true rfl⟩ (d' := 1) (by decide) (c_K_slot N k (N 2 (k.toNat)) ⟨by omega, by omega⟩ ⟨by omega, by omega⟩) ?_
  rintro _ _ _ ⟨rfl, rfl, rfl⟩
  refine mm_go 0 (Y := (15, [(5, .inl (N 2 (k.toNat))), (0, .inr (some 1)), (1, .inl k), (2, .inl o), (3, .inl t), (4, .inl v)], [.inl ((4 * k) + (N 2 (k.toNat)))], shW, N, 0, 0)) rfl ?_
  refine mm_go 5 (Y := (24, [(6, .inl ((4 * k) + (N 2 (k.toNat)))), (5, .inl (N 2 (k.toNat))), (0, .inr (some 1)), (1, .inl k), (2, .inl o), (3, .inl t), (4, .inl v)], [.inl o, .inl ((4 * k) + (N 2 (k.toNat))), .inr (some 3)], shW, N, 0, 0)) rfl ?_
  refine mm_cd (Y := (25, [(6, .inl ((4 * k) + (N 2 (k.toNat)))), (5, .inl (N 2 (k.toNat))), (0, .inr (some 1)), (1, .inl k), (2, .inl o), (3, .inl t), (4, .inl v)], [], shW, (mm_f2 N 3 (((4 * k) + (N 2 (k.toNat))).toNat) o), 0, 0)) rfl ⟨by omega, by omega⟩ ?_
  refine mm_go 4 (Y := (32, [(6, .inl ((4 * k) + (N 2 (k.toNat)))), (5, .inl (N 2 (k.toNat))), (0, .inr (some 1)), (1, .inl k), (2, .inl o), (3, .inl t), (4, .inl v)], [.inl t, .inl ((4 * k) + (N 2 (k.toNat))), .inr (some 4)], shW, (mm_f2 N 3 (((4 * k) + (N 2 (k.toNat))).toNat) o), 0, 0)) rfl ?_
  refine mm_cd (Y := (33, [(6, .inl ((4 * k) + (N 2 (k.toNat)))), (5, .inl (N 2 (k.toNat))), (0, .inr (some 1)), (1, .inl k), (2, .inl o), (3, .inl t), (4, .inl v)], [], shW, (mm_f2 (mm_f2 N 3 (((4 * k) + (N 2 (k.toNat))).toNat) o) 4 (((4 * k) + (N 2 (k.toNat))).toNat) t), 0, 0)) rfl ⟨by omega, by omega⟩ ?_
  refine mm_go 4 (Y := (41, [(6, .inl ((4 * k) + (N 2 (k.toNat)))), (5, .inl (N 2 (k.toNat))), (0, .inr (some 1)), (1, .inl k), (2, .inl o), (3, .inl t), (4, .inl v)], [.inl v, .inl ((4 * k) + (N 2 (k.toNat))), .inr (some 5)], shW, (mm_f2 (mm_f2 N 3 (((4 * k) + (N 2 (k.toNat))).toNat) o) 4 (((4 * k) + (N 2 (k.toNat))).toNat) t), 0, 0)) rfl ?_
  refine mm_cd (Y := (42, [(6, .inl ((4 * k) + (N 2 (k.toNat)))), (5, .inl (N 2 (k.toNat))), (0, .inr (some 1)), (1, .inl k), (2, .inl o), (3, .inl t), (4, .inl v)], [], shW, (mm_f2 (mm_f2 (mm_f2 N 3 (((4 * k) + (N 2 (k.toNat))).toNat) o) 4 (((4 * k) + (N 2 (k.toNat))).toNat) t) 5 (((4 * k) + (N 2 (k.toNat))).toNat) v), 0, 0)) rfl ⟨by omega, by omega⟩ ?_
  refine mm_go 6 (Y := (51, [(6, .inl ((4 * k) + (N 2 (k.toNat)))), (5, .inl (N 2 (k.toNat))), (0, .inr (some 1)), (1, .inl k), (2, .inl o), (3, .inl t), (4, .inl v)], [.inl (mm_wr ((N 2 (k.toNat)) + 1)), .inl k, .inr (some 2)], shW, (mm_f2 (mm_f2 (mm_f2 N 3 (((4 * k) + (N 2 (k.toNat))).toNat) o) 4 (((4 * k) + (N 2 (k.toNat))).toNat) t) 5 (((4 * k) + (N 2 (k.toNat))).toNat) v), 0, 0)) rfl ?_
  rw [mm_wr_id (z := (N 2 (k.toNat)) + 1) (by omega) (by omega)]
  refine mm_cd (Y := (52, [(6, .inl ((4 * k) + (N 2 (k.toNat)))), (5, .inl (N 2 (k.toNat))), (0, .inr (some 1)), (1, .inl k), (2, .inl o), (3, .inl t), (4, .inl v)], [], shW, (mm_f2 (mm_f2 (mm_f2 (mm_f2 N 3 (((4 * k) + (N 2 (k.toNat))).toNat) o) 4 (((4 * k) + (N 2 (k.toNat))).toNat) t) 5 (((4 * k) + (N 2 (k.toNat))).toNat) v) 2 (k.toNat) ((N 2 (k.toNat)) + 1)), 0, 0)) rfl ⟨by omega, by omega⟩ ?_
  refine mm_go 1 (Y := (54, [(6, .inl ((4 * k) + (N 2 (k.toNat)))), (5, .inl (N 2 (k.toNat))), (0, .inr (some 1)), (1, .inl k), (2, .inl o), (3, .inl t), (4, .inl v)], [.inl (N 2 (k.toNat))], shW, (mm_f2 (mm_f2 (mm_f2 (mm_f2 N 3 (((4 * k) + (N 2 (k.toNat))).toNat) o) 4 (((4 * k) + (N 2 (k.toNat))).toNat) t) 5 (((4 * k) + (N 2 (k.toNat))).toNat) v) 2 (k.toNat) ((N 2 (k.toNat)) + 1)), 0, 0)) rfl ?_
  exact mm_rt rfl ⟨rfl, Or.inl rfl⟩ ⟨rfl, rfl, rfl⟩
