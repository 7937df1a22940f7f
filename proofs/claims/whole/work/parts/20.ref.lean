/-! the reference: small methods and its reading of the log -/
def r_M_isMessage (N : mm_N) (k : Int) : Int := if k < 0 then 0 else (if k < (N 31 10) then 1 else 0)
theorem c_M_isMessage {L : Nat} {xs : Nat → Int} (N : mm_N) (k : Int) : mm_Cl mm_pf mm_bd L xs mm_pr 1 83 [.inr (some 31), .inl k] shW N (fun r sh N' => r = some (.inl (r_M_isMessage N k)) ∧ sh = shW ∧ N = N') := by
  refine mm_start p_M_isMessage ?_
  refine mm_go 2 (Y := (if k < 0 then 16 else 4, [(0, .inr (some 31)), (1, .inl k)], [], shW, N, 0, 0)) rfl ?_
  refine mm_if (fun h1 => ?_) (fun h1 => ?_)
  · skip
    refine mm_go 1 (Y := (17, [(0, .inr (some 31)), (1, .inl k)], [.inl 0], shW, N, 0, 0)) rfl ?_
    exact mm_rt rfl ⟨rfl, Or.inr ⟨rfl, (Or.inl rfl)⟩⟩ ⟨by unfold r_M_isMessage; rw [if_pos h1], rfl, rfl⟩
  · skip
    refine mm_go 4 (Y := (if k < (N 31 10) then 12 else 16, [(0, .inr (some 31)), (1, .inl k)], [], shW, N, 0, 0)) rfl ?_
    refine mm_if (fun h2 => ?_) (fun h2 => ?_)
    · skip
      refine mm_go 2 (Y := (17, [(0, .inr (some 31)), (1, .inl k)], [.inl 1], shW, N, 0, 0)) rfl ?_
      exact mm_rt rfl ⟨rfl, Or.inr ⟨rfl, (Or.inr rfl)⟩⟩ ⟨by unfold r_M_isMessage; rw [if_neg h1, if_pos h2], rfl, rfl⟩
    · skip
      refine mm_go 1 (Y := (17, [(0, .inr (some 31)), (1, .inl k)], [.inl 0], shW, N, 0, 0)) rfl ?_
      exact mm_rt rfl ⟨rfl, Or.inr ⟨rfl, (Or.inl rfl)⟩⟩ ⟨by unfold r_M_isMessage; rw [if_neg h1, if_neg h2], rfl, rfl⟩
theorem b_isMessage {N : mm_N} {k : Int} (h : ¬ r_M_isMessage N k = 0) : 0 ≤ k ∧ k < N 31 10 := by
  unfold r_M_isMessage at h
  split at h <;> (try split at h) <;> omega
def n_M_send (N : mm_N) (g : Int) (t : Int) (u : Int) (w : Int) : mm_N := if (N 31 10) = 24 then N else (mm_f2 (mm_f2 (mm_f2 (mm_f2 (mm_f2 N 39 ((N 31 10).toNat) g) 40 ((N 31 10).toNat) t) 41 ((N 31 10).toNat) u) 42 ((N 31 10).toNat) w) 31 10 ((N 31 10) + 1))
theorem c_M_send {L : Nat} {xs : Nat → Int} (N : mm_N) (g : Int) (t : Int) (u : Int) (w : Int) (hc : 0 ≤ N 31 10 ∧ N 31 10 < 25) : mm_Cl mm_pf mm_bd L xs mm_pr 1 86 [.inr (some 31), .inl g, .inl t, .inl u, .inl w] shW N (fun r sh N' => r = none ∧ sh = shW ∧ n_M_send N g t u w = N') := by
  refine mm_start p_M_send ?_
  refine mm_go 4 (Y := (if (N 31 10) = 24 then 9 else 10, [(0, .inr (some 31)), (1, .inl g), (2, .inl t), (3, .inl u), (4, .inl w)], [], shW, N, 0, 0)) rfl ?_
  refine mm_if (fun h1 => ?_) (fun h1 => ?_)
  · skip
    exact mm_rt rfl rfl ⟨rfl, rfl, by unfold n_M_send; rw [if_pos h1]⟩
  · skip
    refine mm_go 5 (Y := (19, [(0, .inr (some 31)), (1, .inl g), (2, .inl t), (3, .inl u), (4, .inl w)], [.inl g, .inl (N 31 10), .inr (some 39)], shW, N, 0, 0)) rfl ?_
    refine mm_cd (Y := (20, [(0, .inr (some 31)), (1, .inl g), (2, .inl t), (3, .inl u), (4, .inl w)], [], shW, (mm_f2 N 39 ((N 31 10).toNat) g), 0, 0)) rfl ⟨by omega, by omega⟩ ?_
    refine mm_go 5 (Y := (29, [(0, .inr (some 31)), (1, .inl g), (2, .inl t), (3, .inl u), (4, .inl w)], [.inl t, .inl (N 31 10), .inr (some 40)], shW, (mm_f2 N 39 ((N 31 10).toNat) g), 0, 0)) rfl ?_
    refine mm_cd (Y := (30, [(0, .inr (some 31)), (1, .inl g), (2, .inl t), (3, .inl u), (4, .inl w)], [], shW, (mm_f2 (mm_f2 N 39 ((N 31 10).toNat) g) 40 ((N 31 10).toNat) t), 0, 0)) rfl ⟨by omega, by omega⟩ ?_
    refine mm_go 5 (Y := (39, [(0, .inr (some 31)), (1, .inl g), (2, .inl t), (3, .inl u), (4, .inl w)], [.inl u, .inl (N 31 10), .inr (some 41)], shW, (mm_f2 (mm_f2 N 39 ((N 31 10).toNat) g) 40 ((N 31 10).toNat) t), 0, 0)) rfl ?_
    refine mm_cd (Y := (40, [(0, .inr (some 31)), (1, .inl g), (2, .inl t), (3, .inl u), (4, .inl w)], [], shW, (mm_f2 (mm_f2 (mm_f2 N 39 ((N 31 10).toNat) g) 40 ((N 31 10).toNat) t) 41 ((N 31 10).toNat) u), 0, 0)) rfl ⟨by omega, by omega⟩ ?_
    refine mm_go 5 (Y := (50, [(0, .inr (some 31)), (1, .inl g), (2, .inl t), (3, .inl u), (4, .inl w)], [.inl w, .inl (N 31 10), .inr (some 42)], shW, (mm_f2 (mm_f2 (mm_f2 N 39 ((N 31 10).toNat) g) 40 ((N 31 10).toNat) t) 41 ((N 31 10).toNat) u), 0, 0)) rfl ?_
    refine mm_cd (Y := (51, [(0, .inr (some 31)), (1, .inl g), (2, .inl t), (3, .inl u), (4, .inl w)], [], shW, (mm_f2 (mm_f2 (mm_f2 (mm_f2 N 39 ((N 31 10).toNat) g) 40 ((N 31 10).toNat) t) 41 ((N 31 10).toNat) u) 42 ((N 31 10).toNat) w), 0, 0)) rfl ⟨by omega, by omega⟩ ?_
    refine mm_go 5 (Y := (58, [(0, .inr (some 31)), (1, .inl g), (2, .inl t), (3, .inl u), (4, .inl w)], [.inl (mm_wr ((N 31 10) + 1)), .inr (some 31)], shW, (mm_f2 (mm_f2 (mm_f2 (mm_f2 N 39 ((N 31 10).toNat) g) 40 ((N 31 10).toNat) t) 41 ((N 31 10).toNat) u) 42 ((N 31 10).toNat) w), 0, 0)) rfl ?_
    rw [mm_wr_id (z := (N 31 10) + 1) (by omega) (by omega)]
    refine mm_go 1 (Y := (61, [(0, .inr (some 31)), (1, .inl g), (2, .inl t), (3, .inl u), (4, .inl w)], [], shW, (mm_f2 (mm_f2 (mm_f2 (mm_f2 (mm_f2 N 39 ((N 31 10).toNat) g) 40 ((N 31 10).toNat) t) 41 ((N 31 10).toNat) u) 42 ((N 31 10).toNat) w) 31 10 ((N 31 10) + 1)), 0, 0)) rfl ?_
    exact mm_rt rfl rfl ⟨rfl, rfl, by unfold n_M_send; rw [if_neg h1]⟩
theorem c_M_write {L : Nat} {xs : Nat → Int} (N : mm_N) (t : Int) (g : Int) (v : Int) (hw : 0 ≤ N 31 8 ∧ N 31 8 + 3 ≤ 288) : mm_Cl mm_pf mm_bd L xs mm_pr 1 95 [.inr (some 31), .inl t, .inl g, .inl v] shW N (fun r sh N' => r = none ∧ sh = shW ∧ (mm_f2 (mm_f2 (mm_f2 (mm_f2 N 38 ((N 31 8).toNat) t) 38 (((N 31 8) + 1).toNat) g) 38 (((N 31 8) + 2).toNat) v) 31 8 ((N 31 8) + 3)) = N') := by
  refine mm_start p_M_write ?_
  refine mm_go 5 (Y := (9, [(0, .inr (some 31)), (1, .inl t), (2, .inl g), (3, .inl v)], [.inl t, .inl (N 31 8), .inr (some 38)], shW, N, 0, 0)) rfl ?_
  refine mm_cd (Y := (10, [(0, .inr (some 31)), (1, .inl t), (2, .inl g), (3, .inl v)], [], shW, (mm_f2 N 38 ((N 31 8).toNat) t), 0, 0)) rfl ⟨by omega, by omega⟩ ?_
  refine mm_go 6 (Y := (20, [(0, .inr (some 31)), (1, .inl t), (2, .inl g), (3, .inl v)], [.inl (mm_wr ((N 31 8) + 1)), .inr (some 38)], shW, (mm_f2 N 38 ((N 31 8).toNat) t), 0, 0)) rfl ?_
  rw [mm_wr_id (z := (N 31 8) + 1) (by omega) (by omega)]
  refine mm_go 1 (Y := (21, [(0, .inr (some 31)), (1, .inl t), (2, .inl g), (3, .inl v)], [.inl g, .inl ((N 31 8) + 1), .inr (some 38)], shW, (mm_f2 N 38 ((N 31 8).toNat) t), 0, 0)) rfl ?_
  refine mm_cd (Y := (22, [(0, .inr (some 31)), (1, .inl t), (2, .inl g), (3, .inl v)], [], shW, (mm_f2 (mm_f2 N 38 ((N 31 8).toNat) t) 38 (((N 31 8) + 1).toNat) g), 0, 0)) rfl ⟨by omega, by omega⟩ ?_
  refine mm_go 6 (Y := (32, [(0, .inr (some 31)), (1, .inl t), (2, .inl g), (3, .inl v)], [.inl (mm_wr ((N 31 8) + 2)), .inr (some 38)], shW, (mm_f2 (mm_f2 N 38 ((N 31 8).toNat) t) 38 (((N 31 8) + 1).toNat) g), 0, 0)) rfl ?_
  rw [mm_wr_id (z := (N 31 8) + 2) (by omega) (by omega)]
  refine mm_go 1 (Y := (33, [(0, .inr (some 31)), (1, .inl t), (2, .inl g), (3, .inl v)], [.inl v, .inl ((N 31 8) + 2), .inr (some 38)], shW, (mm_f2 (mm_f2 N 38 ((N 31 8).toNat) t) 38 (((N 31 8) + 1).toNat) g), 0, 0)) rfl ?_
  refine mm_cd (Y := (34, [(0, .inr (some 31)), (1, .inl t), (2, .inl g), (3, .inl v)], [], shW, (mm_f2 (mm_f2 (mm_f2 N 38 ((N 31 8).toNat) t) 38 (((N 31 8) + 1).toNat) g) 38 (((N 31 8) + 2).toNat) v), 0, 0)) rfl ⟨by omega, by omega⟩ ?_
  refine mm_go 5 (Y := (41, [(0, .inr (some 31)), (1, .inl t), (2, .inl g), (3, .inl v)], [.inl (mm_wr ((N 31 8) + 3)), .inr (some 31)], shW, (mm_f2 (mm_f2 (mm_f2 N 38 ((N 31 8).toNat) t) 38 (((N 31 8) + 1).toNat) g) 38 (((N 31 8) + 2).toNat) v), 0, 0)) rfl ?_
  rw [mm_wr_id (z := (N 31 8) + 3) (by omega) (by omega)]
  refine mm_go 1 (Y := (44, [(0, .inr (some 31)), (1, .inl t), (2, .inl g), (3, .inl v)], [], shW, (mm_f2 (mm_f2 (mm_f2 (mm_f2 N 38 ((N 31 8).toNat) t) 38 (((N 31 8) + 1).toNat) g) 38 (((N 31 8) + 2).toNat) v) 31 8 ((N 31 8) + 3)), 0, 0)) rfl ?_
  exact mm_rt rfl rfl ⟨rfl, rfl, rfl⟩
def r_M_over (N : mm_N) : Int := if (N 31 19) = 0 then (if (N 31 17) = (N 32 ((N 31 16).toNat)) then 1 else 0) else (if (N 31 18) = (N 31 17) then 1 else 0)
theorem c_M_over {L : Nat} {xs : Nat → Int} (N : mm_N) (hk : 0 ≤ N 31 16 ∧ N 31 16 < 4) : mm_Cl mm_pf mm_bd L xs mm_pr 1 93 [.inr (some 31)] shW N (fun r sh N' => r = some (.inl (r_M_over N)) ∧ sh = shW ∧ N = N') := by
  refine mm_start p_M_over ?_
  refine mm_go 3 (Y := (if (N 31 19) = 0 then 26 else 7, [(0, .inr (some 31))], [], shW, N, 0, 0)) rfl ?_
  refine mm_if (fun h1 => ?_) (fun h1 => ?_)
  · skip
    refine mm_go 6 (Y := (38, [(0, .inr (some 31))], [.inl (N 31 16), .inr (some 32), .inl (N 31 17)], shW, N, 0, 0)) rfl ?_
    refine mm_cd (Y := (39, [(0, .inr (some 31))], [.inl (N 32 ((N 31 16).toNat)), .inl (N 31 17)], shW, N, 0, 0)) rfl ⟨by omega, by omega⟩ ?_
    refine mm_go 1 (Y := (if (N 31 17) = (N 32 ((N 31 16).toNat)) then 42 else 46, [(0, .inr (some 31))], [], shW, N, 0, 0)) rfl ?_
    refine mm_if (fun h2 => ?_) (fun h2 => ?_)
    · skip
      refine mm_go 2 (Y := (47, [(0, .inr (some 31))], [.inl 1], shW, N, 0, 0)) rfl ?_
      exact mm_rt rfl ⟨rfl, Or.inr ⟨rfl, (Or.inr rfl)⟩⟩ ⟨by unfold r_M_over; rw [if_pos h1, if_pos h2], rfl, rfl⟩
    · skip
      refine mm_go 1 (Y := (47, [(0, .inr (some 31))], [.inl 0], shW, N, 0, 0)) rfl ?_
      exact mm_rt rfl ⟨rfl, Or.inr ⟨rfl, (Or.inl rfl)⟩⟩ ⟨by unfold r_M_over; rw [if_pos h1, if_neg h2], rfl, rfl⟩
  · skip
    refine mm_go 5 (Y := (if (N 31 18) = (N 31 17) then 18 else 22, [(0, .inr (some 31))], [], shW, N, 0, 0)) rfl ?_
    refine mm_if (fun h3 => ?_) (fun h3 => ?_)
    · skip
      refine mm_go 2 (Y := (47, [(0, .inr (some 31))], [.inl 1], shW, N, 0, 0)) rfl ?_
      exact mm_rt rfl ⟨rfl, Or.inr ⟨rfl, (Or.inr rfl)⟩⟩ ⟨by unfold r_M_over; rw [if_neg h1, if_pos h3], rfl, rfl⟩
    · skip
      refine mm_go 2 (Y := (47, [(0, .inr (some 31))], [.inl 0], shW, N, 0, 0)) rfl ?_
      exact mm_rt rfl ⟨rfl, Or.inr ⟨rfl, (Or.inl rfl)⟩⟩ ⟨by unfold r_M_over; rw [if_neg h1, if_neg h3], rfl, rfl⟩
def r_M_waits (N : mm_N) : Int := if (N 31 16) < 0 then 0 else (if (r_M_over N) = 0 then (if (N 31 9) < (N 31 20) then 0 else 1) else 0)
theorem c_M_waits {L : Nat} {xs : Nat → Int} (N : mm_N) (hk : N 31 16 < 4) : mm_Cl mm_pf mm_bd L xs mm_pr 2 92 [.inr (some 31)] shW N (fun r sh N' => r = some (.inl (r_M_waits N)) ∧ sh = shW ∧ N = N') := by
  refine mm_start p_M_waits ?_
  refine mm_go 3 (Y := (if (N 31 16) < 0 then 29 else 7, [(0, .inr (some 31))], [], shW, N, 0, 0)) rfl ?_
  refine mm_if (fun h1 => ?_) (fun h1 => ?_)
  · skip
    refine mm_go 1 (Y := (30, [(0, .inr (some 31))], [.inl 0], shW, N, 0, 0)) rfl ?_
    exact mm_rt rfl ⟨rfl, Or.inr ⟨rfl, (Or.inl rfl)⟩⟩ ⟨by unfold r_M_waits; rw [if_pos h1], rfl, rfl⟩
  · skip
    refine mm_go 1 (Y := (8, [(0, .inr (some 31))], [.inr (some 31)], shW, N, 0, 0)) rfl ?_
    refine mm_ca rfl ⟨⟨_, rfl⟩, rfl, Nat.le_of_ble_eq_true rfl, Nat.le_of_ble_eq_true rfl⟩ (d' := 1) (by decide) (c_M_over N  ⟨by first | omega | (simp [mm_f2_at, mm_f0_at]; omega), by first | omega | (simp [mm_f2_at, mm_f0_at]; omega)⟩) ?_
    rintro _ _ _ ⟨rfl, rfl, rfl⟩
    refine mm_go 0 (Y := (11, [(0, .inr (some 31))], [.inl (r_M_over N)], shW, N, 0, 0)) rfl ?_
    refine mm_go 1 (Y := (if (r_M_over N) = 0 then 14 else 29, [(0, .inr (some 31))], [], shW, N, 0, 0)) rfl ?_
    refine mm_if (fun h2 => ?_) (fun h2 => ?_)
    · skip
      refine mm_go 5 (Y := (if (N 31 9) < (N 31 20) then 29 else 25, [(0, .inr (some 31))], [], shW, N, 0, 0)) rfl ?_
      refine mm_if (fun h3 => ?_) (fun h3 => ?_)
      · skip
        refine mm_go 1 (Y := (30, [(0, .inr (some 31))], [.inl 0], shW, N, 0, 0)) rfl ?_
        exact mm_rt rfl ⟨rfl, Or.inr ⟨rfl, (Or.inl rfl)⟩⟩ ⟨by unfold r_M_waits; rw [if_neg h1, if_pos h2, if_pos h3], rfl, rfl⟩
      · skip
        refine mm_go 2 (Y := (30, [(0, .inr (some 31))], [.inl 1], shW, N, 0, 0)) rfl ?_
        exact mm_rt rfl ⟨rfl, Or.inr ⟨rfl, (Or.inr rfl)⟩⟩ ⟨by unfold r_M_waits; rw [if_neg h1, if_pos h2, if_neg h3], rfl, rfl⟩
    · skip
      refine mm_go 1 (Y := (30, [(0, .inr (some 31))], [.inl 0], shW, N, 0, 0)) rfl ?_
      exact mm_rt rfl ⟨rfl, Or.inr ⟨rfl, (Or.inl rfl)⟩⟩ ⟨by unfold r_M_waits; rw [if_neg h1, if_neg h2], rfl, rfl⟩
def r_M_nextStep (N : mm_N) : Int := if (N 31 19) = 0 then (N 31 17) else (((N 31 17) - (N 31 18)) - 1)
theorem c_M_nextStep {L : Nat} {xs : Nat → Int} (N : mm_N) (hd : 0 ≤ N 31 17 ∧ N 31 17 < 1000) (hu : 0 ≤ N 31 18 ∧ N 31 18 < 1000) : mm_Cl mm_pf mm_bd L xs mm_pr 1 94 [.inr (some 31)] shW N (fun r sh N' => r = some (.inl (r_M_nextStep N)) ∧ sh = shW ∧ N = N') := by
  refine mm_start p_M_nextStep ?_
  refine mm_go 3 (Y := (if (N 31 19) = 0 then 21 else 7, [(0, .inr (some 31))], [], shW, N, 0, 0)) rfl ?_
  refine mm_if (fun h1 => ?_) (fun h1 => ?_)
  · skip
    refine mm_go 2 (Y := (25, [(0, .inr (some 31))], [.inl (N 31 17)], shW, N, 0, 0)) rfl ?_
    exact mm_rt rfl ⟨rfl, Or.inl rfl⟩ ⟨by unfold r_M_nextStep; rw [if_pos h1], rfl, rfl⟩
  · skip
    refine mm_go 5 (Y := (16, [(0, .inr (some 31))], [.inl (mm_wr ((N 31 17) - (N 31 18)))], shW, N, 0, 0)) rfl ?_
    rw [mm_wr_id (z := (N 31 17) - (N 31 18)) (by omega) (by omega)]
    refine mm_go 2 (Y := (18, [(0, .inr (some 31))], [.inl (mm_wr (((N 31 17) - (N 31 18)) - 1))], shW, N, 0, 0)) rfl ?_
    rw [mm_wr_id (z := ((N 31 17) - (N 31 18)) - 1) (by omega) (by omega)]
    refine mm_go 1 (Y := (25, [(0, .inr (some 31))], [.inl (((N 31 17) - (N 31 18)) - 1)], shW, N, 0, 0)) rfl ?_
    exact mm_rt rfl ⟨rfl, Or.inl rfl⟩ ⟨by unfold r_M_nextStep; rw [if_neg h1], rfl, rfl⟩
def rdrow (g : Nat → Int) (a b c d e : Int) : Nat → Int := fun j => bif Nat.beq j 16 then a else bif Nat.beq j 17 then b else bif Nat.beq j 18 then c else bif Nat.beq j 19 then d else bif Nat.beq j 20 then e else g j
def rd (N : mm_N) (a b c d e : Int) : mm_N := mm_f0 N 31 (rdrow (N 31) a b c d e)
theorem rd_ext {N : mm_N} {f g : Nat → Int} (h : ∀ j, f j = g j) : mm_f0 N 31 f = mm_f0 N 31 g := by
  have : f = g := funext h
  rw [this]
theorem mm_f02 {N : mm_N} {f : Nat → Int} {r j : Nat} {v : Int} : mm_f2 (mm_f0 N r f) r j v = mm_f0 N r (mm_f1 f j v) := by
  funext a
  unfold mm_f2
  by_cases h : a = r
  · subst h
    rw [mm_f0_self, mm_f0_self, mm_f0_self]
  · rw [mm_f0_ne h, mm_f0_ne h, mm_f0_ne h]
theorem bq_ne {a b : Nat} (h : ¬ a = b) : Nat.beq a b = false := mm_beq_ne h
theorem rd_16 {N : mm_N} {a b c d e v : Int} : mm_f2 (rd N a b c d e) 31 16 v = rd N v b c d e := by
  unfold rd
  rw [mm_f02]
  refine rd_ext (fun j => ?_)
  rw [mm_f1_at]
  unfold rdrow
  by_cases h : j = 16
  · subst h
    rw [if_pos rfl]
    rfl
  · rw [if_neg h, bq_ne h]
    rfl
theorem rd_17 {N : mm_N} {a b c d e v : Int} : mm_f2 (rd N a b c d e) 31 17 v = rd N a v c d e := by
  unfold rd
  rw [mm_f02]
  refine rd_ext (fun j => ?_)
  rw [mm_f1_at]
  unfold rdrow
  by_cases h : j = 17
  · subst h
    rw [if_pos rfl]
    rfl
  · rw [if_neg h, bq_ne h]
    rfl
theorem rd_18 {N : mm_N} {a b c d e v : Int} : mm_f2 (rd N a b c d e) 31 18 v = rd N a b v d e := by
  unfold rd
  rw [mm_f02]
  refine rd_ext (fun j => ?_)
  rw [mm_f1_at]
  unfold rdrow
  by_cases h : j = 18
  · subst h
    rw [if_pos rfl]
    rfl
  · rw [if_neg h, bq_ne h]
    rfl
theorem rd_19 {N : mm_N} {a b c d e v : Int} : mm_f2 (rd N a b c d e) 31 19 v = rd N a b c v e := by
  unfold rd
  rw [mm_f02]
  refine rd_ext (fun j => ?_)
  rw [mm_f1_at]
  unfold rdrow
  by_cases h : j = 19
  · subst h
    rw [if_pos rfl]
    rfl
  · rw [if_neg h, bq_ne h]
    rfl
theorem rd_20 {N : mm_N} {a b c d e v : Int} : mm_f2 (rd N a b c d e) 31 20 v = rd N a b c d v := by
  unfold rd
  rw [mm_f02]
  refine rd_ext (fun j => ?_)
  rw [mm_f1_at]
  unfold rdrow
  by_cases h : j = 20
  · subst h
    rw [if_pos rfl]
    rfl
  · rw [if_neg h, bq_ne h]
    rfl
theorem rd_id (N : mm_N) : rd N (N 31 16) (N 31 17) (N 31 18) (N 31 19) (N 31 20) = N := by
  have : rdrow (N 31) (N 31 16) (N 31 17) (N 31 18) (N 31 19) (N 31 20) = N 31 := by
    funext j
    unfold rdrow
    by_cases h16 : j = 16
    · subst h16; rfl
    · rw [bq_ne h16]
      by_cases h17 : j = 17
      · subst h17; rfl
      · rw [bq_ne h17]
        by_cases h18 : j = 18
        · subst h18; rfl
        · rw [bq_ne h18]
          by_cases h19 : j = 19
          · subst h19; rfl
          · rw [bq_ne h19]
            by_cases h20 : j = 20
            · subst h20; rfl
            · rw [bq_ne h20]; rfl
  unfold rd
  rw [this]
  funext a
  by_cases h : a = 31
  · subst h; rw [mm_f0_self]
  · rw [mm_f0_ne h]
theorem lp_M_sagas {L : Nat} {xs : Nat → Int} (N : mm_N)  (hw : 0 ≤ N 31 8 ∧ N 31 8 < 289) : ∀ (k i : Nat) (x : Int) (n : Int), i + k = (N 31 8 / 3).toNat → x = 3 * (i : Int) → n = lg_cn (N 38) i → mm_Wp mm_pf mm_bd L xs (mm_Cl mm_pf mm_bd L xs mm_pr 0) m_M_sagas (fun r sh N' => r = some (.inl (lg_cn (N 38) (N 31 8 / 3).toNat)) ∧ sh = shW ∧ N = N') (4, [(2, .inl x), (1, .inl n), (0, .inr (some 31))], [], shW, N, 0, 0) := by
  intro k
  induction k with
  | zero =>
    intro i x n hi e0 e1
    refine mm_go 3 (Y := (7, [(2, .inl x), (1, .inl n), (0, .inr (some 31))], [.inl (mm_wr (x + 3))], shW, N, 0, 0)) rfl ?_
    rw [mm_wr_id (z := x + 3) (by omega) (by omega)]
    refine mm_go 3 (Y := (if (N 31 8) < (x + 3) then 38 else 14, [(2, .inl x), (1, .inl n), (0, .inr (some 31))], [], shW, N, 0, 0)) rfl ?_
    refine mm_if (fun h1 => ?_) (fun h1 => ?_)
    · skip
      refine mm_go 1 (Y := (39, [(2, .inl x), (1, .inl n), (0, .inr (some 31))], [.inl n], shW, N, 0, 0)) rfl ?_
      exact mm_rt rfl ⟨rfl, Or.inl rfl⟩ ⟨by rw [e1, show i = (N 31 8 / 3).toNat by omega], rfl, rfl⟩
    · skip
      exact absurd h1 (by omega)
  | succ k ih =>
    intro i x n hi e0 e1
    have e2 : x.toNat = 3 * i := by omega
    have e3 := lg_cn_0 (N 38) i
    have e4 : n ≤ 100 := by omega
    refine mm_go 3 (Y := (7, [(2, .inl x), (1, .inl n), (0, .inr (some 31))], [.inl (mm_wr (x + 3))], shW, N, 0, 0)) rfl ?_
    rw [mm_wr_id (z := x + 3) (by omega) (by omega)]
    refine mm_go 3 (Y := (if (N 31 8) < (x + 3) then 38 else 14, [(2, .inl x), (1, .inl n), (0, .inr (some 31))], [], shW, N, 0, 0)) rfl ?_
    refine mm_if (fun h1 => ?_) (fun h1 => ?_)
    · skip
      exact absurd h1 (by omega)
    · skip
      refine mm_go 3 (Y := (19, [(2, .inl x), (1, .inl n), (0, .inr (some 31))], [.inl x, .inr (some 38)], shW, N, 0, 0)) rfl ?_
      refine mm_cd (Y := (20, [(2, .inl x), (1, .inl n), (0, .inr (some 31))], [.inl (N 38 (x.toNat))], shW, N, 0, 0)) rfl ⟨by omega, by omega⟩ ?_
      refine mm_go 2 (Y := (if (N 38 (x.toNat)) = 1 then 24 else 30, [(2, .inl x), (1, .inl n), (0, .inr (some 31))], [], shW, N, 0, 0)) rfl ?_
      refine mm_if (fun h2 => ?_) (fun h2 => ?_)
      · skip
        refine mm_go 3 (Y := (27, [(2, .inl x), (1, .inl n), (0, .inr (some 31))], [.inl (mm_wr (n + 1))], shW, N, 0, 0)) rfl ?_
        rw [mm_wr_id (z := n + 1) (by omega) (by omega)]
        refine mm_go 3 (Y := (35, [(2, .inl (mm_wr (x + 3))), (1, .inl (n + 1)), (0, .inr (some 31))], [], shW, N, 0, 0)) rfl ?_
        rw [mm_wr_id (z := x + 3) (by omega) (by omega)]
        refine mm_go 1 (Y := (4, [(2, .inl (x + 3)), (1, .inl (n + 1)), (0, .inr (some 31))], [], shW, N, 0, 0)) rfl ?_
        refine ih (i + 1) _ _ (by omega) (by omega) ?_
        rw [lg_cn, ← e2, if_pos h2, e1]
      · skip
        refine mm_go 3 (Y := (35, [(2, .inl (mm_wr (x + 3))), (1, .inl n), (0, .inr (some 31))], [], shW, N, 0, 0)) rfl ?_
        rw [mm_wr_id (z := x + 3) (by omega) (by omega)]
        refine mm_go 1 (Y := (4, [(2, .inl (x + 3)), (1, .inl n), (0, .inr (some 31))], [], shW, N, 0, 0)) rfl ?_
        refine ih (i + 1) _ _ (by omega) (by omega) ?_
        rw [lg_cn, ← e2, if_neg h2, e1]
theorem c_M_sagas {L : Nat} {xs : Nat → Int} (N : mm_N)  (hw : 0 ≤ N 31 8 ∧ N 31 8 < 289) : mm_Cl mm_pf mm_bd L xs mm_pr 1 97 [.inr (some 31)] shW N (fun r sh N' => r = some (.inl (lg_cn (N 38) (N 31 8 / 3).toNat)) ∧ sh = shW ∧ N = N') := by
  refine mm_start p_M_sagas ?_
  refine mm_go 4 (Y := (4, [(2, .inl 0), (1, .inl 0), (0, .inr (some 31))], [], shW, N, 0, 0)) rfl ?_
  exact lp_M_sagas N hw (N 31 8 / 3).toNat 0 0 0 (by omega) rfl rfl
def r_M_sagas (N : mm_N) : Int := lg_cn (N 38) (N 31 8 / 3).toNat
