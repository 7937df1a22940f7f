/-! loops of the reference -/
def sf (f : Nat → Int) (k i : Nat) : Nat → Int := fun j => if k ≤ j ∧ j < i then f (j + 1) else f j
def rmv (N : mm_N) (k i : Nat) : mm_N := mm_f0 (mm_f0 (mm_f0 (mm_f0 (mm_f2 N 31 10 (N 31 10 - 1)) 39 (sf (N 39) k i)) 40 (sf (N 40) k i)) 41 (sf (N 41) k i)) 42 (sf (N 42) k i)
theorem sf_0 (f : Nat → Int) (k : Nat) : sf f k k = f := by
  funext j
  unfold sf
  rw [if_neg (by omega)]
theorem sf_up {f : Nat → Int} {k i : Nat} (h : k ≤ i) : mm_f1 (sf f k i) i (f (i + 1)) = sf f k (i + 1) := by
  funext j
  rw [mm_f1_at]
  unfold sf
  by_cases hj : j = i
  · subst hj
    rw [if_pos rfl, if_pos (by omega)]
  · rw [if_neg hj]
    by_cases h2 : k ≤ j ∧ j < i
    · rw [if_pos h2, if_pos (by omega)]
    · rw [if_neg h2, if_neg (by omega)]
theorem sf_at {f : Nat → Int} {k i : Nat} : sf f k i (i + 1) = f (i + 1) := by
  unfold sf
  rw [if_neg (by omega)]
theorem f0_id {N : mm_N} {r : Nat} {f : Nat → Int} (h : f = N r) : mm_f0 N r f = N := by
  funext a
  by_cases ha : a = r
  · subst ha; rw [mm_f0_self, h]
  · rw [mm_f0_ne ha]
theorem rmv_0 (N : mm_N) (k : Nat) : mm_f2 N 31 10 (N 31 10 - 1) = rmv N k k := by
  unfold rmv
  rw [sf_0, sf_0, sf_0, sf_0]
  rw [f0_id (N := mm_f2 N 31 10 (N 31 10 - 1)) (r := 39) (f := N 39) rfl, f0_id (N := mm_f2 N 31 10 (N 31 10 - 1)) (r := 40) (f := N 40) rfl, f0_id (N := mm_f2 N 31 10 (N 31 10 - 1)) (r := 41) (f := N 41) rfl, f0_id (N := mm_f2 N 31 10 (N 31 10 - 1)) (r := 42) (f := N 42) rfl]
theorem f0_comm {N : mm_N} {r q : Nat} {f g : Nat → Int} (h : r ≠ q) : mm_f0 (mm_f0 N r f) q g = mm_f0 (mm_f0 N q g) r f := by
  funext a
  by_cases h1 : a = q
  · subst h1
    rw [mm_f0_self, mm_f0_ne (Ne.symm h), mm_f0_self]
  · rw [mm_f0_ne h1]
    by_cases h2 : a = r
    · subst h2; rw [mm_f0_self, mm_f0_self]
    · rw [mm_f0_ne h2, mm_f0_ne h2, mm_f0_ne h1]
theorem f0_f0 {N : mm_N} {r : Nat} {f g : Nat → Int} : mm_f0 (mm_f0 N r f) r g = mm_f0 N r g := by
  funext a
  by_cases h : a = r
  · subst h; rw [mm_f0_self, mm_f0_self]
  · rw [mm_f0_ne h, mm_f0_ne h, mm_f0_ne h]
theorem rmv_up {N : mm_N} {k i : Nat} (h : k ≤ i) : mm_f2 (mm_f2 (mm_f2 (mm_f2 (rmv N k i) 39 i (rmv N k i 39 (i + 1))) 40 i (rmv N k i 40 (i + 1))) 41 i (rmv N k i 41 (i + 1))) 42 i (rmv N k i 42 (i + 1)) = rmv N k (i + 1) := by
  have a9 : rmv N k i 39 = sf (N 39) k i := rfl
  have a0 : rmv N k i 40 = sf (N 40) k i := rfl
  have a1 : rmv N k i 41 = sf (N 41) k i := rfl
  have a2 : rmv N k i 42 = sf (N 42) k i := rfl
  rw [a9, a0, a1, a2, sf_at, sf_at, sf_at, sf_at]
  show mm_f0 (mm_f0 (mm_f0 (mm_f0 (rmv N k i) 39 (mm_f1 (sf (N 39) k i) i (N 39 (i + 1)))) 40 (mm_f1 (sf (N 40) k i) i (N 40 (i + 1)))) 41 (mm_f1 (sf (N 41) k i) i (N 41 (i + 1)))) 42 (mm_f1 (sf (N 42) k i) i (N 42 (i + 1))) = _
  rw [sf_up h, sf_up h, sf_up h, sf_up h]
  unfold rmv
  generalize mm_f2 N 31 10 (N 31 10 - 1) = B
  funext a
  by_cases h42 : a = 42
  · subst h42; rw [mm_f0_self, mm_f0_self]
  · rw [mm_f0_ne h42, mm_f0_ne h42]
    by_cases h41 : a = 41
    · subst h41; rw [mm_f0_self, mm_f0_self]
    · rw [mm_f0_ne h41, mm_f0_ne h41]
      by_cases h40 : a = 40
      · subst h40; rw [mm_f0_self, mm_f0_self]
      · rw [mm_f0_ne h40, mm_f0_ne h40]
        by_cases h39 : a = 39
        · subst h39; rw [mm_f0_self, mm_f0_self]
        · rw [mm_f0_ne h39, mm_f0_ne h39, mm_f0_ne h42, mm_f0_ne h41, mm_f0_ne h40, mm_f0_ne h39]
theorem lp_M_remove {L : Nat} {xs : Nat → Int} (N : mm_N) (q : Int) (hq : 0 ≤ q ∧ q < N 31 10) (hc : N 31 10 < 25) : ∀ (k i : Nat) (x : Int), i + k = (N 31 10 - 1).toNat → x = (i : Int) → q.toNat ≤ i → mm_Wp mm_pf mm_bd L xs (mm_Cl mm_pf mm_bd L xs mm_pr 0) m_M_remove (fun r sh N' => r = none ∧ sh = shW ∧ rmv N q.toNat (N 31 10 - 1).toNat = N') (12, [(2, .inl x), (0, .inr (some 31)), (1, .inl q)], [], shW, (rmv N q.toNat i), 0, 0) := by
  intro k
  induction k with
  | zero =>
    intro i x hi e0 e1
    refine mm_go 4 (Y := (if x < (N 31 10 - 1) then 20 else 82, [(2, .inl x), (0, .inr (some 31)), (1, .inl q)], [], shW, (rmv N q.toNat i), 0, 0)) rfl ?_
    refine mm_if (fun h1 => ?_) (fun h1 => ?_)
    · skip
      exact absurd h1 (by omega)
    · skip
      exact mm_rt rfl rfl ⟨rfl, rfl, by rw [show i = (N 31 10 - 1).toNat by omega]⟩
  | succ k ih =>
    intro i x hi e0 e1
    have q0 : x.toNat = i := by omega
    have q1 : (x + 1).toNat = i + 1 := by omega
    refine mm_go 4 (Y := (if x < (N 31 10 - 1) then 20 else 82, [(2, .inl x), (0, .inr (some 31)), (1, .inl q)], [], shW, (rmv N q.toNat i), 0, 0)) rfl ?_
    refine mm_if (fun h1 => ?_) (fun h1 => ?_)
    · skip
      refine mm_go 8 (Y := (32, [(2, .inl x), (0, .inr (some 31)), (1, .inl q)], [.inl (mm_wr (x + 1)), .inr (some 39), .inl x, .inr (some 39)], shW, (rmv N q.toNat i), 0, 0)) rfl ?_
      rw [mm_wr_id (z := x + 1) (by omega) (by omega)]
      refine mm_cd (Y := (33, [(2, .inl x), (0, .inr (some 31)), (1, .inl q)], [.inl ((rmv N q.toNat i) 39 ((x + 1).toNat)), .inl x, .inr (some 39)], shW, (rmv N q.toNat i), 0, 0)) rfl ⟨by omega, by omega⟩ ?_
      refine mm_cd (Y := (34, [(2, .inl x), (0, .inr (some 31)), (1, .inl q)], [], shW, (mm_f2 (rmv N q.toNat i) 39 (x.toNat) ((rmv N q.toNat i) 39 ((x + 1).toNat))), 0, 0)) rfl ⟨by omega, by omega⟩ ?_
      refine mm_go 8 (Y := (46, [(2, .inl x), (0, .inr (some 31)), (1, .inl q)], [.inl (mm_wr (x + 1)), .inr (some 40), .inl x, .inr (some 40)], shW, (mm_f2 (rmv N q.toNat i) 39 (x.toNat) ((rmv N q.toNat i) 39 ((x + 1).toNat))), 0, 0)) rfl ?_
      rw [mm_wr_id (z := x + 1) (by omega) (by omega)]
      refine mm_cd (Y := (47, [(2, .inl x), (0, .inr (some 31)), (1, .inl q)], [.inl ((rmv N q.toNat i) 40 ((x + 1).toNat)), .inl x, .inr (some 40)], shW, (mm_f2 (rmv N q.toNat i) 39 (x.toNat) ((rmv N q.toNat i) 39 ((x + 1).toNat))), 0, 0)) rfl ⟨by omega, by omega⟩ ?_
      refine mm_cd (Y := (48, [(2, .inl x), (0, .inr (some 31)), (1, .inl q)], [], shW, (mm_f2 (mm_f2 (rmv N q.toNat i) 39 (x.toNat) ((rmv N q.toNat i) 39 ((x + 1).toNat))) 40 (x.toNat) ((rmv N q.toNat i) 40 ((x + 1).toNat))), 0, 0)) rfl ⟨by omega, by omega⟩ ?_
      refine mm_go 8 (Y := (60, [(2, .inl x), (0, .inr (some 31)), (1, .inl q)], [.inl (mm_wr (x + 1)), .inr (some 41), .inl x, .inr (some 41)], shW, (mm_f2 (mm_f2 (rmv N q.toNat i) 39 (x.toNat) ((rmv N q.toNat i) 39 ((x + 1).toNat))) 40 (x.toNat) ((rmv N q.toNat i) 40 ((x + 1).toNat))), 0, 0)) rfl ?_
      rw [mm_wr_id (z := x + 1) (by omega) (by omega)]
      refine mm_cd (Y := (61, [(2, .inl x), (0, .inr (some 31)), (1, .inl q)], [.inl ((rmv N q.toNat i) 41 ((x + 1).toNat)), .inl x, .inr (some 41)], shW, (mm_f2 (mm_f2 (rmv N q.toNat i) 39 (x.toNat) ((rmv N q.toNat i) 39 ((x + 1).toNat))) 40 (x.toNat) ((rmv N q.toNat i) 40 ((x + 1).toNat))), 0, 0)) rfl ⟨by omega, by omega⟩ ?_
      refine mm_cd (Y := (62, [(2, .inl x), (0, .inr (some 31)), (1, .inl q)], [], shW, (mm_f2 (mm_f2 (mm_f2 (rmv N q.toNat i) 39 (x.toNat) ((rmv N q.toNat i) 39 ((x + 1).toNat))) 40 (x.toNat) ((rmv N q.toNat i) 40 ((x + 1).toNat))) 41 (x.toNat) ((rmv N q.toNat i) 41 ((x + 1).toNat))), 0, 0)) rfl ⟨by omega, by omega⟩ ?_
      refine mm_go 8 (Y := (74, [(2, .inl x), (0, .inr (some 31)), (1, .inl q)], [.inl (mm_wr (x + 1)), .inr (some 42), .inl x, .inr (some 42)], shW, (mm_f2 (mm_f2 (mm_f2 (rmv N q.toNat i) 39 (x.toNat) ((rmv N q.toNat i) 39 ((x + 1).toNat))) 40 (x.toNat) ((rmv N q.toNat i) 40 ((x + 1).toNat))) 41 (x.toNat) ((rmv N q.toNat i) 41 ((x + 1).toNat))), 0, 0)) rfl ?_
      rw [mm_wr_id (z := x + 1) (by omega) (by omega)]
      refine mm_cd (Y := (75, [(2, .inl x), (0, .inr (some 31)), (1, .inl q)], [.inl ((rmv N q.toNat i) 42 ((x + 1).toNat)), .inl x, .inr (some 42)], shW, (mm_f2 (mm_f2 (mm_f2 (rmv N q.toNat i) 39 (x.toNat) ((rmv N q.toNat i) 39 ((x + 1).toNat))) 40 (x.toNat) ((rmv N q.toNat i) 40 ((x + 1).toNat))) 41 (x.toNat) ((rmv N q.toNat i) 41 ((x + 1).toNat))), 0, 0)) rfl ⟨by omega, by omega⟩ ?_
      refine mm_cd (Y := (76, [(2, .inl x), (0, .inr (some 31)), (1, .inl q)], [], shW, (mm_f2 (mm_f2 (mm_f2 (mm_f2 (rmv N q.toNat i) 39 (x.toNat) ((rmv N q.toNat i) 39 ((x + 1).toNat))) 40 (x.toNat) ((rmv N q.toNat i) 40 ((x + 1).toNat))) 41 (x.toNat) ((rmv N q.toNat i) 41 ((x + 1).toNat))) 42 (x.toNat) ((rmv N q.toNat i) 42 ((x + 1).toNat))), 0, 0)) rfl ⟨by omega, by omega⟩ ?_
      refine mm_go 1 (Y := (79, [(2, .inl (mm_wr (x + 1))), (0, .inr (some 31)), (1, .inl q)], [], shW, (mm_f2 (mm_f2 (mm_f2 (mm_f2 (rmv N q.toNat i) 39 (x.toNat) ((rmv N q.toNat i) 39 ((x + 1).toNat))) 40 (x.toNat) ((rmv N q.toNat i) 40 ((x + 1).toNat))) 41 (x.toNat) ((rmv N q.toNat i) 41 ((x + 1).toNat))) 42 (x.toNat) ((rmv N q.toNat i) 42 ((x + 1).toNat))), 0, 0)) rfl ?_
      rw [mm_wr_id (z := x + 1) (by omega) (by omega)]
      refine mm_go 1 (Y := (12, [(2, .inl (x + 1)), (0, .inr (some 31)), (1, .inl q)], [], shW, (mm_f2 (mm_f2 (mm_f2 (mm_f2 (rmv N q.toNat i) 39 (x.toNat) ((rmv N q.toNat i) 39 ((x + 1).toNat))) 40 (x.toNat) ((rmv N q.toNat i) 40 ((x + 1).toNat))) 41 (x.toNat) ((rmv N q.toNat i) 41 ((x + 1).toNat))) 42 (x.toNat) ((rmv N q.toNat i) 42 ((x + 1).toNat))), 0, 0)) rfl ?_
      rw [q0, q1, rmv_up e1]
      exact ih (i + 1) _ (by omega) (by omega) (by omega)
    · skip
      exact absurd h1 (by omega)
theorem c_M_remove {L : Nat} {xs : Nat → Int} (N : mm_N) (q : Int) (hq : 0 ≤ q ∧ q < N 31 10) (hc : N 31 10 < 25) : mm_Cl mm_pf mm_bd L xs mm_pr 1 84 [.inr (some 31), .inl q] shW N (fun r sh N' => r = none ∧ sh = shW ∧ rmv N q.toNat (N 31 10 - 1).toNat = N') := by
  refine mm_start p_M_remove ?_
  refine mm_go 5 (Y := (7, [(0, .inr (some 31)), (1, .inl q)], [.inl (mm_wr ((N 31 10) - 1)), .inr (some 31)], shW, N, 0, 0)) rfl ?_
  rw [mm_wr_id (z := (N 31 10) - 1) (by omega) (by omega)]
  refine mm_go 3 (Y := (12, [(2, .inl q), (0, .inr (some 31)), (1, .inl q)], [], shW, (mm_f2 N 31 10 ((N 31 10) - 1)), 0, 0)) rfl ?_
  rw [rmv_0 N q.toNat]
  exact lp_M_remove N q hq hc ((N 31 10 - 1).toNat - q.toNat) q.toNat q (by omega) (by omega) (Nat.le_refl _)
def r_M_lose (N : mm_N) (k : Int) : Int := if (r_M_isMessage N k) = 0 then 0 else 1
def n_M_lose (N : mm_N) (k : Int) : mm_N := if (r_M_isMessage N k) = 0 then N else (rmv N k.toNat (N 31 10 - 1).toNat)
theorem c_M_lose {L : Nat} {xs : Nat → Int} (N : mm_N) (k : Int) (hc : 0 ≤ N 31 10 ∧ N 31 10 < 25) : mm_Cl mm_pf mm_bd L xs mm_pr 2 82 [.inr (some 31), .inl k] shW N (fun r sh N' => r = some (.inl (r_M_lose N k)) ∧ sh = shW ∧ n_M_lose N k = N') := by
  refine mm_start p_M_lose ?_
  refine mm_go 2 (Y := (2, [(0, .inr (some 31)), (1, .inl k)], [.inl k, .inr (some 31)], shW, N, 0, 0)) rfl ?_
  refine mm_ca rfl ⟨⟨_, rfl⟩, rfl, Nat.le_of_ble_eq_true rfl, Nat.le_of_ble_eq_true rfl⟩ (d' := 1) (by decide) (c_M_isMessage N k) ?_
  rintro _ _ _ ⟨rfl, rfl, rfl⟩
  refine mm_go 0 (Y := (5, [(0, .inr (some 31)), (1, .inl k)], [.inl (r_M_isMessage N k)], shW, N, 0, 0)) rfl ?_
  refine mm_go 1 (Y := (if (r_M_isMessage N k) = 0 then 8 else 10, [(0, .inr (some 31)), (1, .inl k)], [], shW, N, 0, 0)) rfl ?_
  refine mm_if (fun h1 => ?_) (fun h1 => ?_)
  · skip
    refine mm_go 1 (Y := (9, [(0, .inr (some 31)), (1, .inl k)], [.inl 0], shW, N, 0, 0)) rfl ?_
    exact mm_rt rfl ⟨rfl, Or.inr ⟨rfl, (Or.inl rfl)⟩⟩ ⟨by unfold r_M_lose; rw [if_pos h1], rfl, by unfold n_M_lose; rw [if_pos h1]⟩
  · skip
    have bh1 := b_isMessage h1
    refine mm_go 2 (Y := (12, [(0, .inr (some 31)), (1, .inl k)], [.inl k, .inr (some 31)], shW, N, 0, 0)) rfl ?_
    refine mm_ca rfl ⟨⟨_, rfl⟩, rfl, Nat.le_of_ble_eq_true rfl, Nat.le_of_ble_eq_true rfl⟩ (d' := 1) (by decide) (c_M_remove N k ⟨by first | omega | (simp [mm_f2_at, mm_f0_at]; omega), by first | omega | (simp [mm_f2_at, mm_f0_at]; omega)⟩ (by omega)) ?_
    rintro _ _ _ ⟨rfl, rfl, rfl⟩
    refine mm_go 0 (Y := (15, [(0, .inr (some 31)), (1, .inl k)], [], shW, (rmv N k.toNat (N 31 10 - 1).toNat), 0, 0)) rfl ?_
    refine mm_go 1 (Y := (16, [(0, .inr (some 31)), (1, .inl k)], [.inl 1], shW, (rmv N k.toNat (N 31 10 - 1).toNat), 0, 0)) rfl ?_
    exact mm_rt rfl ⟨rfl, Or.inr ⟨rfl, (Or.inr rfl)⟩⟩ ⟨by unfold r_M_lose; rw [if_neg h1], rfl, by unfold n_M_lose; rw [if_neg h1]⟩
def r_M_repeat (N : mm_N) (k : Int) : Int := if (r_M_isMessage N k) = 0 then 0 else (if (N 31 10) = 24 then 0 else 1)
def n_M_repeat (N : mm_N) (k : Int) : mm_N := if (r_M_isMessage N k) = 0 then N else (if (N 31 10) = 24 then N else (n_M_send N (N 39 (k.toNat)) (N 40 (k.toNat)) (N 41 (k.toNat)) (N 42 (k.toNat))))
theorem c_M_repeat {L : Nat} {xs : Nat → Int} (N : mm_N) (k : Int) (hc : 0 ≤ N 31 10 ∧ N 31 10 < 25) : mm_Cl mm_pf mm_bd L xs mm_pr 2 85 [.inr (some 31), .inl k] shW N (fun r sh N' => r = some (.inl (r_M_repeat N k)) ∧ sh = shW ∧ n_M_repeat N k = N') := by
  refine mm_start p_M_repeat ?_
  refine mm_go 2 (Y := (2, [(0, .inr (some 31)), (1, .inl k)], [.inl k, .inr (some 31)], shW, N, 0, 0)) rfl ?_
  refine mm_ca rfl ⟨⟨_, rfl⟩, rfl, Nat.le_of_ble_eq_true rfl, Nat.le_of_ble_eq_true rfl⟩ (d' := 1) (by decide) (c_M_isMessage N k) ?_
  rintro _ _ _ ⟨rfl, rfl, rfl⟩
  refine mm_go 0 (Y := (5, [(0, .inr (some 31)), (1, .inl k)], [.inl (r_M_isMessage N k)], shW, N, 0, 0)) rfl ?_
  refine mm_go 1 (Y := (if (r_M_isMessage N k) = 0 then 17 else 8, [(0, .inr (some 31)), (1, .inl k)], [], shW, N, 0, 0)) rfl ?_
  refine mm_if (fun h1 => ?_) (fun h1 => ?_)
  · skip
    refine mm_go 1 (Y := (18, [(0, .inr (some 31)), (1, .inl k)], [.inl 0], shW, N, 0, 0)) rfl ?_
    exact mm_rt rfl ⟨rfl, Or.inr ⟨rfl, (Or.inl rfl)⟩⟩ ⟨by unfold r_M_repeat; rw [if_pos h1], rfl, by unfold n_M_repeat; rw [if_pos h1]⟩
  · skip
    have bh1 := b_isMessage h1
    refine mm_go 4 (Y := (if (N 31 10) = 24 then 17 else 19, [(0, .inr (some 31)), (1, .inl k)], [], shW, N, 0, 0)) rfl ?_
    refine mm_if (fun h2 => ?_) (fun h2 => ?_)
    · skip
      refine mm_go 1 (Y := (18, [(0, .inr (some 31)), (1, .inl k)], [.inl 0], shW, N, 0, 0)) rfl ?_
      exact mm_rt rfl ⟨rfl, Or.inr ⟨rfl, (Or.inl rfl)⟩⟩ ⟨by unfold r_M_repeat; rw [if_neg h1, if_pos h2], rfl, by unfold n_M_repeat; rw [if_neg h1, if_pos h2]⟩
    · skip
      refine mm_go 4 (Y := (25, [(0, .inr (some 31)), (1, .inl k)], [.inl k, .inr (some 39), .inr (some 31)], shW, N, 0, 0)) rfl ?_
      refine mm_cd (Y := (26, [(0, .inr (some 31)), (1, .inl k)], [.inl (N 39 (k.toNat)), .inr (some 31)], shW, N, 0, 0)) rfl ⟨by omega, by omega⟩ ?_
      refine mm_go 3 (Y := (31, [(0, .inr (some 31)), (1, .inl k)], [.inl k, .inr (some 40), .inl (N 39 (k.toNat)), .inr (some 31)], shW, N, 0, 0)) rfl ?_
      refine mm_cd (Y := (32, [(0, .inr (some 31)), (1, .inl k)], [.inl (N 40 (k.toNat)), .inl (N 39 (k.toNat)), .inr (some 31)], shW, N, 0, 0)) rfl ⟨by omega, by omega⟩ ?_
      refine mm_go 3 (Y := (37, [(0, .inr (some 31)), (1, .inl k)], [.inl k, .inr (some 41), .inl (N 40 (k.toNat)), .inl (N 39 (k.toNat)), .inr (some 31)], shW, N, 0, 0)) rfl ?_
      refine mm_cd (Y := (38, [(0, .inr (some 31)), (1, .inl k)], [.inl (N 41 (k.toNat)), .inl (N 40 (k.toNat)), .inl (N 39 (k.toNat)), .inr (some 31)], shW, N, 0, 0)) rfl ⟨by omega, by omega⟩ ?_
      refine mm_go 3 (Y := (43, [(0, .inr (some 31)), (1, .inl k)], [.inl k, .inr (some 42), .inl (N 41 (k.toNat)), .inl (N 40 (k.toNat)), .inl (N 39 (k.toNat)), .inr (some 31)], shW, N, 0, 0)) rfl ?_
      refine mm_cd (Y := (44, [(0, .inr (some 31)), (1, .inl k)], [.inl (N 42 (k.toNat)), .inl (N 41 (k.toNat)), .inl (N 40 (k.toNat)), .inl (N 39 (k.toNat)), .inr (some 31)], shW, N, 0, 0)) rfl ⟨by omega, by omega⟩ ?_
      refine mm_ca rfl ⟨⟨_, rfl⟩, rfl, Nat.le_of_ble_eq_true rfl, Nat.le_of_ble_eq_true rfl⟩ (d' := 1) (by decide) (c_M_send N (N 39 (k.toNat)) (N 40 (k.toNat)) (N 41 (k.toNat)) (N 42 (k.toNat)) ⟨by first | omega | (simp [mm_f2_at, mm_f0_at]; omega), by first | omega | (simp [mm_f2_at, mm_f0_at]; omega)⟩) ?_
      rintro _ _ _ ⟨rfl, rfl, rfl⟩
      refine mm_go 0 (Y := (47, [(0, .inr (some 31)), (1, .inl k)], [], shW, (n_M_send N (N 39 (k.toNat)) (N 40 (k.toNat)) (N 41 (k.toNat)) (N 42 (k.toNat))), 0, 0)) rfl ?_
      refine mm_go 1 (Y := (48, [(0, .inr (some 31)), (1, .inl k)], [.inl 1], shW, (n_M_send N (N 39 (k.toNat)) (N 40 (k.toNat)) (N 41 (k.toNat)) (N 42 (k.toNat))), 0, 0)) rfl ?_
      exact mm_rt rfl ⟨rfl, Or.inr ⟨rfl, (Or.inr rfl)⟩⟩ ⟨by unfold r_M_repeat; rw [if_neg h1, if_neg h2], rfl, by unfold n_M_repeat; rw [if_neg h1, if_neg h2]⟩
def r_M_deliver (N : mm_N) (k : Int) : Int := if (r_M_isMessage N k) = 0 then 0 else (if (N 42 (k.toNat)) = 0 then (r_M_request (rmv N k.toNat (N 31 10 - 1).toNat) (N 39 (k.toNat)) (N 40 (k.toNat)) (N 41 (k.toNat))) else (r_M_reply (rmv N k.toNat (N 31 10 - 1).toNat) (N 39 (k.toNat)) (N 40 (k.toNat)) (N 41 (k.toNat)) (N 42 (k.toNat))))
def n_M_deliver (N : mm_N) (k : Int) : mm_N := if (r_M_isMessage N k) = 0 then N else (if (N 42 (k.toNat)) = 0 then (n_M_request (rmv N k.toNat (N 31 10 - 1).toNat) (N 39 (k.toNat)) (N 40 (k.toNat)) (N 41 (k.toNat))) else (n_M_reply (rmv N k.toNat (N 31 10 - 1).toNat) (N 39 (k.toNat)) (N 40 (k.toNat)) (N 41 (k.toNat)) (N 42 (k.toNat))))
theorem c_M_deliver {L : Nat} {xs : Nat → Int} (N : mm_N) (k : Int) (hc : 0 ≤ N 31 10 ∧ N 31 10 < 25) (hq : 0 ≤ k ∧ k < N 31 10 → mQ (rmv N k.toNat (N 31 10 - 1).toNat) (N 39 k.toNat) (N 40 k.toNat) (N 41 k.toNat) ∧ mP (rmv N k.toNat (N 31 10 - 1).toNat) (N 39 k.toNat)) : mm_Cl mm_pf mm_bd L xs mm_pr 4 87 [.inr (some 31), .inl k] shW N (fun r sh N' => r = some (.inl (r_M_deliver N k)) ∧ sh = shW ∧ n_M_deliver N k = N') := by
  refine mm_start p_M_deliver ?_
  refine mm_go 2 (Y := (2, [(0, .inr (some 31)), (1, .inl k)], [.inl k, .inr (some 31)], shW, N, 0, 0)) rfl ?_
  refine mm_ca rfl ⟨⟨_, rfl⟩, rfl, Nat.le_of_ble_eq_true rfl, Nat.le_of_ble_eq_true rfl⟩ (d' := 1) (by decide) (c_M_isMessage N k) ?_
  rintro _ _ _ ⟨rfl, rfl, rfl⟩
  refine mm_go 0 (Y := (5, [(0, .inr (some 31)), (1, .inl k)], [.inl (r_M_isMessage N k)], shW, N, 0, 0)) rfl ?_
  refine mm_go 1 (Y := (if (r_M_isMessage N k) = 0 then 8 else 10, [(0, .inr (some 31)), (1, .inl k)], [], shW, N, 0, 0)) rfl ?_
  refine mm_if (fun h1 => ?_) (fun h1 => ?_)
  · skip
    refine mm_go 1 (Y := (9, [(0, .inr (some 31)), (1, .inl k)], [.inl 0], shW, N, 0, 0)) rfl ?_
    exact mm_rt rfl ⟨rfl, Or.inl rfl⟩ ⟨by unfold r_M_deliver; rw [if_pos h1], rfl, by unfold n_M_deliver; rw [if_pos h1]⟩
  · skip
    have bh1 := b_isMessage h1
    obtain ⟨q1, q2⟩ := hq bh1
    refine mm_go 3 (Y := (15, [(0, .inr (some 31)), (1, .inl k)], [.inl k, .inr (some 39)], shW, N, 0, 0)) rfl ?_
    refine mm_cd (Y := (16, [(0, .inr (some 31)), (1, .inl k)], [.inl (N 39 (k.toNat))], shW, N, 0, 0)) rfl ⟨by omega, by omega⟩ ?_
    refine mm_go 4 (Y := (22, [(2, .inl (N 39 (k.toNat))), (0, .inr (some 31)), (1, .inl k)], [.inl k, .inr (some 40)], shW, N, 0, 0)) rfl ?_
    refine mm_cd (Y := (23, [(2, .inl (N 39 (k.toNat))), (0, .inr (some 31)), (1, .inl k)], [.inl (N 40 (k.toNat))], shW, N, 0, 0)) rfl ⟨by omega, by omega⟩ ?_
    refine mm_go 4 (Y := (29, [(3, .inl (N 40 (k.toNat))), (2, .inl (N 39 (k.toNat))), (0, .inr (some 31)), (1, .inl k)], [.inl k, .inr (some 41)], shW, N, 0, 0)) rfl ?_
    refine mm_cd (Y := (30, [(3, .inl (N 40 (k.toNat))), (2, .inl (N 39 (k.toNat))), (0, .inr (some 31)), (1, .inl k)], [.inl (N 41 (k.toNat))], shW, N, 0, 0)) rfl ⟨by omega, by omega⟩ ?_
    refine mm_go 4 (Y := (37, [(4, .inl (N 41 (k.toNat))), (3, .inl (N 40 (k.toNat))), (2, .inl (N 39 (k.toNat))), (0, .inr (some 31)), (1, .inl k)], [.inl k, .inr (some 42)], shW, N, 0, 0)) rfl ?_
    refine mm_cd (Y := (38, [(4, .inl (N 41 (k.toNat))), (3, .inl (N 40 (k.toNat))), (2, .inl (N 39 (k.toNat))), (0, .inr (some 31)), (1, .inl k)], [.inl (N 42 (k.toNat))], shW, N, 0, 0)) rfl ⟨by omega, by omega⟩ ?_
    refine mm_go 3 (Y := (42, [(5, .inl (N 42 (k.toNat))), (4, .inl (N 41 (k.toNat))), (3, .inl (N 40 (k.toNat))), (2, .inl (N 39 (k.toNat))), (0, .inr (some 31)), (1, .inl k)], [.inl k, .inr (some 31)], shW, N, 0, 0)) rfl ?_
    refine mm_ca rfl ⟨⟨_, rfl⟩, rfl, Nat.le_of_ble_eq_true rfl, Nat.le_of_ble_eq_true rfl⟩ (d' := 1) (by decide) (c_M_remove N k ⟨by first | omega | (simp [mm_f2_at, mm_f0_at]; omega), by first | omega | (simp [mm_f2_at, mm_f0_at]; omega)⟩ (by omega)) ?_
    rintro _ _ _ ⟨rfl, rfl, rfl⟩
    refine mm_go 0 (Y := (45, [(5, .inl (N 42 (k.toNat))), (4, .inl (N 41 (k.toNat))), (3, .inl (N 40 (k.toNat))), (2, .inl (N 39 (k.toNat))), (0, .inr (some 31)), (1, .inl k)], [], shW, (rmv N k.toNat (N 31 10 - 1).toNat), 0, 0)) rfl ?_
    refine mm_go 2 (Y := (if (N 42 (k.toNat)) = 0 then 50 else 61, [(5, .inl (N 42 (k.toNat))), (4, .inl (N 41 (k.toNat))), (3, .inl (N 40 (k.toNat))), (2, .inl (N 39 (k.toNat))), (0, .inr (some 31)), (1, .inl k)], [], shW, (rmv N k.toNat (N 31 10 - 1).toNat), 0, 0)) rfl ?_
    refine mm_if (fun h2 => ?_) (fun h2 => ?_)
    · skip
      refine mm_go 4 (Y := (55, [(5, .inl (N 42 (k.toNat))), (4, .inl (N 41 (k.toNat))), (3, .inl (N 40 (k.toNat))), (2, .inl (N 39 (k.toNat))), (0, .inr (some 31)), (1, .inl k)], [.inl (N 41 (k.toNat)), .inl (N 40 (k.toNat)), .inl (N 39 (k.toNat)), .inr (some 31)], shW, (rmv N k.toNat (N 31 10 - 1).toNat), 0, 0)) rfl ?_
      refine mm_ca rfl ⟨⟨_, rfl⟩, rfl, Nat.le_of_ble_eq_true rfl, Nat.le_of_ble_eq_true rfl⟩ (d' := 3) (by decide) (c_M_request (rmv N k.toNat (N 31 10 - 1).toNat) (N 39 (k.toNat)) (N 40 (k.toNat)) (N 41 (k.toNat)) (by assumption)) ?_
      rintro _ _ _ ⟨rfl, rfl, rfl⟩
      refine mm_go 0 (Y := (58, [(5, .inl (N 42 (k.toNat))), (4, .inl (N 41 (k.toNat))), (3, .inl (N 40 (k.toNat))), (2, .inl (N 39 (k.toNat))), (0, .inr (some 31)), (1, .inl k)], [.inl (r_M_request (rmv N k.toNat (N 31 10 - 1).toNat) (N 39 (k.toNat)) (N 40 (k.toNat)) (N 41 (k.toNat)))], shW, (n_M_request (rmv N k.toNat (N 31 10 - 1).toNat) (N 39 (k.toNat)) (N 40 (k.toNat)) (N 41 (k.toNat))), 0, 0)) rfl ?_
      refine mm_go 1 (Y := (71, [(5, .inl (N 42 (k.toNat))), (4, .inl (N 41 (k.toNat))), (3, .inl (N 40 (k.toNat))), (2, .inl (N 39 (k.toNat))), (0, .inr (some 31)), (1, .inl k)], [.inl (r_M_request (rmv N k.toNat (N 31 10 - 1).toNat) (N 39 (k.toNat)) (N 40 (k.toNat)) (N 41 (k.toNat)))], shW, (n_M_request (rmv N k.toNat (N 31 10 - 1).toNat) (N 39 (k.toNat)) (N 40 (k.toNat)) (N 41 (k.toNat))), 0, 0)) rfl ?_
      exact mm_rt rfl ⟨rfl, Or.inl rfl⟩ ⟨by unfold r_M_deliver; rw [if_neg h1, if_pos h2], rfl, by unfold n_M_deliver; rw [if_neg h1, if_pos h2]⟩
    · skip
      refine mm_go 5 (Y := (68, [(5, .inl (N 42 (k.toNat))), (4, .inl (N 41 (k.toNat))), (3, .inl (N 40 (k.toNat))), (2, .inl (N 39 (k.toNat))), (0, .inr (some 31)), (1, .inl k)], [.inl (N 42 (k.toNat)), .inl (N 41 (k.toNat)), .inl (N 40 (k.toNat)), .inl (N 39 (k.toNat)), .inr (some 31)], shW, (rmv N k.toNat (N 31 10 - 1).toNat), 0, 0)) rfl ?_
      refine mm_ca rfl ⟨⟨_, rfl⟩, rfl, Nat.le_of_ble_eq_true rfl, Nat.le_of_ble_eq_true rfl⟩ (d' := 3) (by decide) (c_M_reply (rmv N k.toNat (N 31 10 - 1).toNat) (N 39 (k.toNat)) (N 40 (k.toNat)) (N 41 (k.toNat)) (N 42 (k.toNat)) (by assumption)) ?_
      rintro _ _ _ ⟨rfl, rfl, rfl⟩
      refine mm_go 0 (Y := (71, [(5, .inl (N 42 (k.toNat))), (4, .inl (N 41 (k.toNat))), (3, .inl (N 40 (k.toNat))), (2, .inl (N 39 (k.toNat))), (0, .inr (some 31)), (1, .inl k)], [.inl (r_M_reply (rmv N k.toNat (N 31 10 - 1).toNat) (N 39 (k.toNat)) (N 40 (k.toNat)) (N 41 (k.toNat)) (N 42 (k.toNat)))], shW, (n_M_reply (rmv N k.toNat (N 31 10 - 1).toNat) (N 39 (k.toNat)) (N 40 (k.toNat)) (N 41 (k.toNat)) (N 42 (k.toNat))), 0, 0)) rfl ?_
      exact mm_rt rfl ⟨rfl, Or.inl rfl⟩ ⟨by unfold r_M_deliver; rw [if_neg h1, if_neg h2], rfl, by unfold n_M_deliver; rw [if_neg h1, if_neg h2]⟩
def itn (g : Int → mm_N → mm_N) : Nat → mm_N → mm_N
  | 0, N => N
  | n + 1, N => g n (itn g n N)
def mfl (_ : Int) (N : mm_N) : mm_N := if (N 31 9 + 1) % 3 = 0 then n_M_sendNext (mm_f2 N 31 9 (N 31 9 + 1)) (N 38 (N 31 9 + 1 - 2).toNat) else mm_f2 N 31 9 (N 31 9 + 1)
theorem mfl_p (x : Int) {N : mm_N} (h : (N 31 9 + 1) % 3 = 0) : mfl x N = n_M_sendNext (mm_f2 N 31 9 (N 31 9 + 1)) (N 38 (N 31 9 + 1 - 2).toNat) := if_pos h
theorem mfl_n (x : Int) {N : mm_N} (h : ¬ (N 31 9 + 1) % 3 = 0) : mfl x N = mm_f2 N 31 9 (N 31 9 + 1) := if_neg h
def msd (s : Int) (N : mm_N) : mm_N := n_M_sendNext N s
theorem lp_M_flush {L : Nat} {xs : Nat → Int} (N : mm_N) (n : Int) (hs : 0 ≤ N 31 9 ∧ N 31 9 ≤ N 31 8 ∧ N 31 8 < 289) (c : Nat) (hc : (c : Int) = max 0 (min n (N 31 8 - N 31 9))) (hJ : ∀ i, i ≤ c → (itn mfl i N) 31 9 = N 31 9 + i ∧ (itn mfl i N) 31 8 = N 31 8 ∧ mV (itn mfl i N) ∧ 0 ≤ (itn mfl i N) 31 10 ∧ (itn mfl i N) 31 10 < 25) : ∀ (k i : Nat) (x : Int), i + k = c → x = (i : Int) → mm_Wp mm_pf mm_bd L xs (mm_Cl mm_pf mm_bd L xs mm_pr 3) m_M_flush (fun r sh N' => r = some (.inl (c : Int)) ∧ sh = shW ∧ itn mfl c N = N') (2, [(2, .inl x), (0, .inr (some 31)), (1, .inl n)], [], shW, (itn mfl i N), 0, 0) := by
  intro k
  induction k with
  | zero =>
    intro i x hi e0
    obtain ⟨j1, j2, j3, j4, j5⟩ := hJ i (by omega)
    refine mm_go 3 (Y := (if x < n then 7 else 58, [(2, .inl x), (0, .inr (some 31)), (1, .inl n)], [], shW, (itn mfl i N), 0, 0)) rfl ?_
    refine mm_if (fun h1 => ?_) (fun h1 => ?_)
    · skip
      refine mm_go 5 (Y := (if ((itn mfl i N) 31 9) < ((itn mfl i N) 31 8) then 18 else 58, [(2, .inl x), (0, .inr (some 31)), (1, .inl n)], [], shW, (itn mfl i N), 0, 0)) rfl ?_
      refine mm_if (fun h2 => ?_) (fun h2 => ?_)
      · skip
        exact absurd h2 (by omega)
      · skip
        refine mm_go 1 (Y := (59, [(2, .inl x), (0, .inr (some 31)), (1, .inl n)], [.inl x], shW, (itn mfl i N), 0, 0)) rfl ?_
        exact mm_rt rfl ⟨rfl, Or.inl rfl⟩ ⟨by rw [e0, show i = c by omega], rfl, by rw [show i = c by omega]⟩
    · skip
      refine mm_go 1 (Y := (59, [(2, .inl x), (0, .inr (some 31)), (1, .inl n)], [.inl x], shW, (itn mfl i N), 0, 0)) rfl ?_
      exact mm_rt rfl ⟨rfl, Or.inl rfl⟩ ⟨by rw [e0, show i = c by omega], rfl, by rw [show i = c by omega]⟩
  | succ k ih =>
    intro i x hi e0
    obtain ⟨j1, j2, j3, j4, j5⟩ := hJ i (by omega)
    refine mm_go 3 (Y := (if x < n then 7 else 58, [(2, .inl x), (0, .inr (some 31)), (1, .inl n)], [], shW, (itn mfl i N), 0, 0)) rfl ?_
    refine mm_if (fun h1 => ?_) (fun h1 => ?_)
    · skip
      refine mm_go 5 (Y := (if ((itn mfl i N) 31 9) < ((itn mfl i N) 31 8) then 18 else 58, [(2, .inl x), (0, .inr (some 31)), (1, .inl n)], [], shW, (itn mfl i N), 0, 0)) rfl ?_
      refine mm_if (fun h2 => ?_) (fun h2 => ?_)
      · skip
        refine mm_go 5 (Y := (25, [(2, .inl x), (0, .inr (some 31)), (1, .inl n)], [.inl (mm_wr (((itn mfl i N) 31 9) + 1)), .inr (some 31)], shW, (itn mfl i N), 0, 0)) rfl ?_
        rw [mm_wr_id (z := ((itn mfl i N) 31 9) + 1) (by omega) (by omega)]
        refine mm_go 2 (Y := (31, [(2, .inl (mm_wr (x + 1))), (0, .inr (some 31)), (1, .inl n)], [], shW, (mm_f2 (itn mfl i N) 31 9 (((itn mfl i N) 31 9) + 1)), 0, 0)) rfl ?_
        rw [mm_wr_id (z := x + 1) (by omega) (by omega)]
        refine mm_go 3 (Y := (36, [(2, .inl (x + 1)), (0, .inr (some 31)), (1, .inl n)], [.inl 3, .inl (((itn mfl i N) 31 9) + 1)], shW, (mm_f2 (itn mfl i N) 31 9 (((itn mfl i N) 31 9) + 1)), 0, 0)) rfl ?_
        refine mm_cd (Y := (37, [(2, .inl (x + 1)), (0, .inr (some 31)), (1, .inl n)], [.inl (mm_wr ((((itn mfl i N) 31 9) + 1).tmod 3))], shW, (mm_f2 (itn mfl i N) 31 9 (((itn mfl i N) 31 9) + 1)), 0, 0)) rfl (by decide) ?_
        rw [mm_tmod (x := ((itn mfl i N) 31 9) + 1) (n := 3) (by omega) (by omega) (by omega)]
        refine mm_go 1 (Y := (if ((((itn mfl i N) 31 9) + 1) % 3) = 0 then 40 else 2, [(2, .inl (x + 1)), (0, .inr (some 31)), (1, .inl n)], [], shW, (mm_f2 (itn mfl i N) 31 9 (((itn mfl i N) 31 9) + 1)), 0, 0)) rfl ?_
        refine mm_if (fun h3 => ?_) (fun h3 => ?_)
        · skip
          refine mm_go 7 (Y := (51, [(2, .inl (x + 1)), (0, .inr (some 31)), (1, .inl n)], [.inl (mm_wr ((((itn mfl i N) 31 9) + 1) - 2)), .inr (some 38), .inr (some 31)], shW, (mm_f2 (itn mfl i N) 31 9 (((itn mfl i N) 31 9) + 1)), 0, 0)) rfl ?_
          rw [mm_wr_id (z := (((itn mfl i N) 31 9) + 1) - 2) (by omega) (by omega)]
          refine mm_cd (Y := (52, [(2, .inl (x + 1)), (0, .inr (some 31)), (1, .inl n)], [.inl ((itn mfl i N) 38 (((((itn mfl i N) 31 9) + 1) - 2).toNat)), .inr (some 31)], shW, (mm_f2 (itn mfl i N) 31 9 (((itn mfl i N) 31 9) + 1)), 0, 0)) rfl ⟨by omega, by omega⟩ ?_
          refine mm_ca rfl ⟨⟨_, rfl⟩, rfl, Nat.le_of_ble_eq_true rfl, Nat.le_of_ble_eq_true rfl⟩ (d' := 3) (by decide) (c_M_sendNext (mm_f2 (itn mfl i N) 31 9 (((itn mfl i N) 31 9) + 1)) ((itn mfl i N) 38 (((((itn mfl i N) 31 9) + 1) - 2).toNat)) ⟨by show 0 ≤ (itn mfl i N) 31 8; omega, by show (itn mfl i N) 31 8 < 289; omega⟩ j3 ⟨j4, j5⟩) ?_
          rintro _ _ _ ⟨rfl, rfl, rfl⟩
          refine mm_go 0 (Y := (55, [(2, .inl (x + 1)), (0, .inr (some 31)), (1, .inl n)], [], shW, (n_M_sendNext (mm_f2 (itn mfl i N) 31 9 (((itn mfl i N) 31 9) + 1)) ((itn mfl i N) 38 (((((itn mfl i N) 31 9) + 1) - 2).toNat))), 0, 0)) rfl ?_
          refine mm_go 1 (Y := (2, [(2, .inl (x + 1)), (0, .inr (some 31)), (1, .inl n)], [], shW, (n_M_sendNext (mm_f2 (itn mfl i N) 31 9 (((itn mfl i N) 31 9) + 1)) ((itn mfl i N) 38 (((((itn mfl i N) 31 9) + 1) - 2).toNat))), 0, 0)) rfl ?_
          have e9 : (n_M_sendNext (mm_f2 (itn mfl i N) 31 9 (((itn mfl i N) 31 9) + 1)) ((itn mfl i N) 38 (((((itn mfl i N) 31 9) + 1) - 2).toNat))) = itn mfl (i + 1) N := (mfl_p (i : Int) h3).symm
          rw [e9]
          exact ih (i + 1) _ (by omega) (by omega)
        · skip
          have e9 : (mm_f2 (itn mfl i N) 31 9 (((itn mfl i N) 31 9) + 1)) = itn mfl (i + 1) N := (mfl_n (i : Int) h3).symm
          rw [e9]
          exact ih (i + 1) _ (by omega) (by omega)
      · skip
        exact absurd h2 (by omega)
    · skip
      exact absurd h1 (by omega)
theorem c_M_flush {L : Nat} {xs : Nat → Int} (N : mm_N) (n : Int) (hs : 0 ≤ N 31 9 ∧ N 31 9 ≤ N 31 8 ∧ N 31 8 < 289) (c : Nat) (hc : (c : Int) = max 0 (min n (N 31 8 - N 31 9))) (hJ : ∀ i, i ≤ c → (itn mfl i N) 31 9 = N 31 9 + i ∧ (itn mfl i N) 31 8 = N 31 8 ∧ mV (itn mfl i N) ∧ 0 ≤ (itn mfl i N) 31 10 ∧ (itn mfl i N) 31 10 < 25) : mm_Cl mm_pf mm_bd L xs mm_pr 4 98 [.inr (some 31), .inl n] shW N (fun r sh N' => r = some (.inl (c : Int)) ∧ sh = shW ∧ itn mfl c N = N') := by
  refine mm_start p_M_flush ?_
  refine mm_go 2 (Y := (2, [(2, .inl 0), (0, .inr (some 31)), (1, .inl n)], [], shW, N, 0, 0)) rfl ?_
  exact lp_M_flush N n hs c hc hJ c 0 0 (by omega) rfl
