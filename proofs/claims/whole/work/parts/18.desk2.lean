/-! the desk, as it is called -/
theorem wr_at {N : mm_N} {t g v : Int} (h0 : 0 ≤ N 16 1) (hm : N 16 1 % 3 = 0) : (mm_f2 (mm_f2 (mm_f2 (mm_f2 N 17 ((N 16 1).toNat) t) 17 (((N 16 1) + 1).toNat) g) 17 (((N 16 1) + 2).toNat) v) 16 1 ((N 16 1) + 3)) 17 ((3 * ((((N 16 1) + 3) / 3) - 1)) + 1).toNat = g := by
  have e : ((3 * ((((N 16 1) + 3) / 3) - 1)) + 1).toNat = (N 16 1 + 1).toNat := by omega
  rw [e, mm_f2_at, if_neg (by omega), mm_f2_at, if_neg (by omega), mm_f2_at, if_pos ⟨rfl, rfl⟩]
theorem wr_S {N : mm_N} {a b c : Nat} {t g v w : Int} (hS : cS N) : cS (mm_f2 (mm_f2 (mm_f2 (mm_f2 N 17 a t) 17 b g) 17 c v) 16 1 w) :=
  cS_mv hS rfl (fun i hi => by rw [mm_f2_row (by omega), mm_f2_row (by omega), mm_f2_row (by omega), mm_f2_row (by omega)])
theorem nm_96 {N : mm_N} {m : Int} (hm : 0 ≤ m ∧ m < 20000) (hs : m / 1000 < 12) (ht : (m / 100) % 10 < 4) : 0 ≤ r_D_nameOf N m ∧ r_D_nameOf N m < 96 := by
  unfold r_D_nameOf
  split <;> omega
theorem at_12 (N : mm_N) (n : Nat) (p u : Int) : r_V_attempt N n p u = 1 ∨ r_V_attempt N n p u = 2 := by
  unfold r_V_attempt
  split
  · split
    · exact Or.inl rfl
    · exact Or.inr rfl
  · exact Or.inr rfl
theorem at_row {N : mm_N} {n : Nat} {p u : Int} {a : Nat} (h : a ≠ 8 + 3 * n) : n_V_attempt N n p u a = N a := by
  unfold n_V_attempt
  split
  · split
    · rfl
    · exact mm_f2_row h
  · exact mm_f2_row h
def tQ (N : mm_N) (m : Int) : Prop := (0 ≤ m ∧ m < 20000) ∧ (m % 10) / 2 < 2 ∧ m / 1000 < 12 ∧ (m / 100) % 10 < 4 ∧ cS N ∧ cK N ∧ (∀ n, n < 2 → 0 ≤ N (7 + 3 * n) 2 ∧ N (7 + 3 * n) 2 < 1000) ∧ (∀ n, n < 2 → ∀ j, j < 96 → 0 ≤ N (9 + 3 * n) j ∧ N (9 + 3 * n) j ≤ 2) ∧ 0 ≤ N 14 1 ∧ N 14 1 < 25
def tP (N : mm_N) (m : Int) : Prop := (0 ≤ m ∧ m < 20000) ∧ m / 1000 < 12 ∧ cS N ∧ cK N ∧ (0 ≤ N 0 6 ∧ N 0 6 < 1000) ∧ (0 ≤ N 16 1 ∧ N 16 1 < 289) ∧ (¬ N 13 2 = 0 → N 16 1 % 3 = 0) ∧ (¬ N 13 2 = 0 → ¬ r_D_isWaiting N (m / 1000) = 0 → ¬ 288 < ((N 16 1) + 3))
theorem st_b {N : mm_N} {n : Nat} (h1 : 0 ≤ N (19 + n) 1 ∧ N (19 + n) 1 ≤ 4) (h2 : 0 ≤ N (19 + n) 2 ∧ N (19 + n) 2 ≤ 4) : 0 ≤ r_S_standing N n ∧ r_S_standing N n < 1000 := by
  unfold r_S_standing
  split <;> split <;> omega
theorem c_D_writeRecord {L : Nat} {xs : Nat → Int} (N : mm_N) (t : Int) (g : Int) (v : Int) (hw : 0 ≤ N 16 1 ∧ N 16 1 < 289) (hm : N 16 1 % 3 = 0) (hroom : ¬ 288 < ((N 16 1) + 3)) (hg : 0 ≤ g ∧ g < 12) (hS : cS N) (hK : cK N) (hc : 0 ≤ N 0 6 ∧ N 0 6 < 1000) : mm_Cl mm_pf mm_bd L xs mm_pr 3 14 [.inr (some 0), .inl t, .inl g, .inl v] shW N (fun r sh N' => r = none ∧ sh = shW ∧ (n_D_readRecord (mm_f2 (mm_f2 (mm_f2 (mm_f2 N 17 (((N 16 1)).toNat) t) 17 ((((N 16 1)) + 1).toNat) g) 17 ((((N 16 1)) + 2).toNat) v) 16 1 (((N 16 1)) + 3)) ((((((N 16 1)) + 3)) / 3) - 1)) = N') := by
  refine mm_start p_D_writeRecord ?_
  refine mm_go 5 (Y := (7, [(0, .inr (some 0)), (1, .inl t), (2, .inl g), (3, .inl v)], [.inl v, .inl g, .inl t, .inr (some 16)], shW, N, 0, 0)) rfl ?_
  refine mm_ca rfl ⟨⟨_, rfl⟩, rfl, Nat.le_of_ble_eq_true rfl, Nat.le_of_ble_eq_true rfl⟩ (d' := 1) (by decide) (c_G_append2 N t g v hw hroom) ?_
  rintro _ _ _ ⟨rfl, rfl, rfl⟩
  refine mm_go 0 (Y := (10, [(0, .inr (some 0)), (1, .inl t), (2, .inl g), (3, .inl v)], [], shW, (mm_f2 (mm_f2 (mm_f2 (mm_f2 N 17 (((N 16 1)).toNat) t) 17 ((((N 16 1)) + 1).toNat) g) 17 ((((N 16 1)) + 2).toNat) v) 16 1 (((N 16 1)) + 3)), 0, 0)) rfl ?_
  refine mm_go 3 (Y := (15, [(0, .inr (some 0)), (1, .inl t), (2, .inl g), (3, .inl v)], [.inr (some 16), .inr (some 0)], shW, (mm_f2 (mm_f2 (mm_f2 (mm_f2 N 17 (((N 16 1)).toNat) t) 17 ((((N 16 1)) + 1).toNat) g) 17 ((((N 16 1)) + 2).toNat) v) 16 1 (((N 16 1)) + 3)), 0, 0)) rfl ?_
  refine mm_ca rfl ⟨⟨_, rfl⟩, rfl, Nat.le_of_ble_eq_true rfl, Nat.le_of_ble_eq_true rfl⟩ (d' := 1) (by decide) (c_G_wholeRecords (mm_f2 (mm_f2 (mm_f2 (mm_f2 N 17 (((N 16 1)).toNat) t) 17 ((((N 16 1)) + 1).toNat) g) 17 ((((N 16 1)) + 2).toNat) v) 16 1 (((N 16 1)) + 3))  ⟨by first | omega | (simp [mm_f2_at, mm_f0_at]; omega), by first | omega | (simp [mm_f2_at, mm_f0_at]; omega)⟩) ?_
  rintro _ _ _ ⟨rfl, rfl, rfl⟩
  refine mm_go 0 (Y := (18, [(0, .inr (some 0)), (1, .inl t), (2, .inl g), (3, .inl v)], [.inl (((((N 16 1)) + 3)) / 3), .inr (some 0)], shW, (mm_f2 (mm_f2 (mm_f2 (mm_f2 N 17 (((N 16 1)).toNat) t) 17 ((((N 16 1)) + 1).toNat) g) 17 ((((N 16 1)) + 2).toNat) v) 16 1 (((N 16 1)) + 3)), 0, 0)) rfl ?_
  refine mm_go 2 (Y := (20, [(0, .inr (some 0)), (1, .inl t), (2, .inl g), (3, .inl v)], [.inl (mm_wr ((((((N 16 1)) + 3)) / 3) - 1)), .inr (some 0)], shW, (mm_f2 (mm_f2 (mm_f2 (mm_f2 N 17 (((N 16 1)).toNat) t) 17 ((((N 16 1)) + 1).toNat) g) 17 ((((N 16 1)) + 2).toNat) v) 16 1 (((N 16 1)) + 3)), 0, 0)) rfl ?_
  rw [mm_wr_id (z := (((((N 16 1)) + 3)) / 3) - 1) (by omega) (by omega)]
  refine mm_ca rfl ⟨⟨_, rfl⟩, rfl, Nat.le_of_ble_eq_true rfl, Nat.le_of_ble_eq_true rfl⟩ (d' := 2) (by decide) (c_D_readRecord (mm_f2 (mm_f2 (mm_f2 (mm_f2 N 17 (((N 16 1)).toNat) t) 17 ((((N 16 1)) + 1).toNat) g) 17 ((((N 16 1)) + 2).toNat) v) 16 1 (((N 16 1)) + 3)) ((((((N 16 1)) + 3)) / 3) - 1) ⟨by omega, by omega⟩ (by rw [wr_at hw.1 hm]; exact hg) (wr_S hS) hK hc) ?_
  rintro _ _ _ ⟨rfl, rfl, rfl⟩
  refine mm_go 0 (Y := (23, [(0, .inr (some 0)), (1, .inl t), (2, .inl g), (3, .inl v)], [], shW, (n_D_readRecord (mm_f2 (mm_f2 (mm_f2 (mm_f2 N 17 (((N 16 1)).toNat) t) 17 ((((N 16 1)) + 1).toNat) g) 17 ((((N 16 1)) + 2).toNat) v) 16 1 (((N 16 1)) + 3)) ((((((N 16 1)) + 3)) / 3) - 1)), 0, 0)) rfl ?_
  exact mm_rt rfl rfl ⟨rfl, rfl, rfl⟩
def r_D_addStep (N : mm_N) (k : Int) (o : Int) (t : Int) (v : Int) : Int := if (r_D_isBelow N k 4) = 0 then (-1) else (if (r_D_isBelow N o 3) = 0 then (-1) else (if (r_D_isBelow N t 8) = 0 then (-1) else (if v < 1 then (-1) else (if 100 < v then (-1) else (if (N 0 7) = 0 then (if (N 2 (k.toNat)) = 4 then (-3) else (N 2 (k.toNat))) else (-4))))))
def n_D_addStep (N : mm_N) (k : Int) (o : Int) (t : Int) (v : Int) : mm_N := if (r_D_isBelow N k 4) = 0 then N else (if (r_D_isBelow N o 3) = 0 then N else (if (r_D_isBelow N t 8) = 0 then N else (if v < 1 then N else (if 100 < v then N else (if (N 0 7) = 0 then (if (N 2 (k.toNat)) = 4 then N else (mm_f2 (mm_f2 (mm_f2 (mm_f2 N 3 (((4 * k) + ((N 2 (k.toNat)))).toNat) o) 4 (((4 * k) + ((N 2 (k.toNat)))).toNat) t) 5 (((4 * k) + ((N 2 (k.toNat)))).toNat) v) 2 (k.toNat) (((N 2 (k.toNat))) + 1))) else N)))))
theorem c_D_addStep {L : Nat} {xs : Nat → Int} (N : mm_N) (k : Int) (o : Int) (t : Int) (v : Int) (hK : cK N) : mm_Cl mm_pf mm_bd L xs mm_pr 3 6 [.inr (some 0), .inl k, .inl o, .inl t, .inl v] shW N (fun r sh N' => r = some (.inl (r_D_addStep N k o t v)) ∧ sh = shW ∧ n_D_addStep N k o t v = N') := by
  refine mm_start p_D_addStep ?_
  refine mm_go 2 (Y := (2, [(0, .inr (some 0)), (1, .inl k), (2, .inl o), (3, .inl t), (4, .inl v)], [.inl 4, .inl k], shW, N, 0, 0)) rfl ?_
  refine mm_ca rfl ⟨Nat.le_of_ble_eq_true rfl, rfl, Nat.le_of_ble_eq_true rfl, Nat.le_of_ble_eq_true rfl⟩ (d' := 1) (by decide) (c_D_isBelow N k 4) ?_
  rintro _ _ _ ⟨rfl, rfl, rfl⟩
  refine mm_go 0 (Y := (5, [(0, .inr (some 0)), (1, .inl k), (2, .inl o), (3, .inl t), (4, .inl v)], [.inl (r_D_isBelow N k 4)], shW, N, 0, 0)) rfl ?_
  refine mm_go 1 (Y := (if (r_D_isBelow N k 4) = 0 then 38 else 8, [(0, .inr (some 0)), (1, .inl k), (2, .inl o), (3, .inl t), (4, .inl v)], [], shW, N, 0, 0)) rfl ?_
  refine mm_if (fun h1 => ?_) (fun h1 => ?_)
  · skip
    refine mm_go 1 (Y := (39, [(0, .inr (some 0)), (1, .inl k), (2, .inl o), (3, .inl t), (4, .inl v)], [.inl (-1)], shW, N, 0, 0)) rfl ?_
    exact mm_rt rfl ⟨rfl, Or.inl rfl⟩ ⟨by unfold r_D_addStep; rw [if_pos h1], rfl, by unfold n_D_addStep; rw [if_pos h1]⟩
  · skip
    have bh1 := b_isBelow h1
    have k1 := hK.1 k.toNat (by omega)
    refine mm_go 2 (Y := (10, [(0, .inr (some 0)), (1, .inl k), (2, .inl o), (3, .inl t), (4, .inl v)], [.inl 3, .inl o], shW, N, 0, 0)) rfl ?_
    refine mm_ca rfl ⟨Nat.le_of_ble_eq_true rfl, rfl, Nat.le_of_ble_eq_true rfl, Nat.le_of_ble_eq_true rfl⟩ (d' := 1) (by decide) (c_D_isBelow N o 3) ?_
    rintro _ _ _ ⟨rfl, rfl, rfl⟩
    refine mm_go 0 (Y := (13, [(0, .inr (some 0)), (1, .inl k), (2, .inl o), (3, .inl t), (4, .inl v)], [.inl (r_D_isBelow N o 3)], shW, N, 0, 0)) rfl ?_
    refine mm_go 1 (Y := (if (r_D_isBelow N o 3) = 0 then 38 else 16, [(0, .inr (some 0)), (1, .inl k), (2, .inl o), (3, .inl t), (4, .inl v)], [], shW, N, 0, 0)) rfl ?_
    refine mm_if (fun h2 => ?_) (fun h2 => ?_)
    · skip
      refine mm_go 1 (Y := (39, [(0, .inr (some 0)), (1, .inl k), (2, .inl o), (3, .inl t), (4, .inl v)], [.inl (-1)], shW, N, 0, 0)) rfl ?_
      exact mm_rt rfl ⟨rfl, Or.inl rfl⟩ ⟨by unfold r_D_addStep; rw [if_neg h1, if_pos h2], rfl, by unfold n_D_addStep; rw [if_neg h1, if_pos h2]⟩
    · skip
      have bh2 := b_isBelow h2
      refine mm_go 2 (Y := (19, [(0, .inr (some 0)), (1, .inl k), (2, .inl o), (3, .inl t), (4, .inl v)], [.inl 8, .inl t], shW, N, 0, 0)) rfl ?_
      refine mm_ca rfl ⟨Nat.le_of_ble_eq_true rfl, rfl, Nat.le_of_ble_eq_true rfl, Nat.le_of_ble_eq_true rfl⟩ (d' := 1) (by decide) (c_D_isBelow N t 8) ?_
      rintro _ _ _ ⟨rfl, rfl, rfl⟩
      refine mm_go 0 (Y := (22, [(0, .inr (some 0)), (1, .inl k), (2, .inl o), (3, .inl t), (4, .inl v)], [.inl (r_D_isBelow N t 8)], shW, N, 0, 0)) rfl ?_
      refine mm_go 1 (Y := (if (r_D_isBelow N t 8) = 0 then 38 else 25, [(0, .inr (some 0)), (1, .inl k), (2, .inl o), (3, .inl t), (4, .inl v)], [], shW, N, 0, 0)) rfl ?_
      refine mm_if (fun h3 => ?_) (fun h3 => ?_)
      · skip
        refine mm_go 1 (Y := (39, [(0, .inr (some 0)), (1, .inl k), (2, .inl o), (3, .inl t), (4, .inl v)], [.inl (-1)], shW, N, 0, 0)) rfl ?_
        exact mm_rt rfl ⟨rfl, Or.inl rfl⟩ ⟨by unfold r_D_addStep; rw [if_neg h1, if_neg h2, if_pos h3], rfl, by unfold n_D_addStep; rw [if_neg h1, if_neg h2, if_pos h3]⟩
      · skip
        have bh3 := b_isBelow h3
        refine mm_go 3 (Y := (if v < 1 then 38 else 31, [(0, .inr (some 0)), (1, .inl k), (2, .inl o), (3, .inl t), (4, .inl v)], [], shW, N, 0, 0)) rfl ?_
        refine mm_if (fun h4 => ?_) (fun h4 => ?_)
        · skip
          refine mm_go 1 (Y := (39, [(0, .inr (some 0)), (1, .inl k), (2, .inl o), (3, .inl t), (4, .inl v)], [.inl (-1)], shW, N, 0, 0)) rfl ?_
          exact mm_rt rfl ⟨rfl, Or.inl rfl⟩ ⟨by unfold r_D_addStep; rw [if_neg h1, if_neg h2, if_neg h3, if_pos h4], rfl, by unfold n_D_addStep; rw [if_neg h1, if_neg h2, if_neg h3, if_pos h4]⟩
        · skip
          refine mm_go 3 (Y := (if 100 < v then 38 else 40, [(0, .inr (some 0)), (1, .inl k), (2, .inl o), (3, .inl t), (4, .inl v)], [], shW, N, 0, 0)) rfl ?_
          refine mm_if (fun h5 => ?_) (fun h5 => ?_)
          · skip
            refine mm_go 1 (Y := (39, [(0, .inr (some 0)), (1, .inl k), (2, .inl o), (3, .inl t), (4, .inl v)], [.inl (-1)], shW, N, 0, 0)) rfl ?_
            exact mm_rt rfl ⟨rfl, Or.inl rfl⟩ ⟨by unfold r_D_addStep; rw [if_neg h1, if_neg h2, if_neg h3, if_neg h4, if_pos h5], rfl, by unfold n_D_addStep; rw [if_neg h1, if_neg h2, if_neg h3, if_neg h4, if_pos h5]⟩
          · skip
            refine mm_go 3 (Y := (if (N 0 7) = 0 then 50 else 47, [(0, .inr (some 0)), (1, .inl k), (2, .inl o), (3, .inl t), (4, .inl v)], [], shW, N, 0, 0)) rfl ?_
            refine mm_if (fun h6 => ?_) (fun h6 => ?_)
            · skip
              refine mm_go 3 (Y := (55, [(0, .inr (some 0)), (1, .inl k), (2, .inl o), (3, .inl t), (4, .inl v)], [.inl k, .inr (some 1)], shW, N, 0, 0)) rfl ?_
              refine mm_ca rfl ⟨⟨_, rfl⟩, rfl, Nat.le_of_ble_eq_true rfl, Nat.le_of_ble_eq_true rfl⟩ (d' := 1) (by decide) (c_K_stepCount N k ⟨by omega, by omega⟩) ?_
              rintro _ _ _ ⟨rfl, rfl, rfl⟩
              refine mm_go 0 (Y := (58, [(0, .inr (some 0)), (1, .inl k), (2, .inl o), (3, .inl t), (4, .inl v)], [.inl (N 2 (k.toNat))], shW, N, 0, 0)) rfl ?_
              refine mm_go 2 (Y := (if (N 2 (k.toNat)) = 4 then 62 else 65, [(0, .inr (some 0)), (1, .inl k), (2, .inl o), (3, .inl t), (4, .inl v)], [], shW, N, 0, 0)) rfl ?_
              refine mm_if (fun h7 => ?_) (fun h7 => ?_)
              · skip
                refine mm_go 1 (Y := (64, [(0, .inr (some 0)), (1, .inl k), (2, .inl o), (3, .inl t), (4, .inl v)], [.inl (-3)], shW, N, 0, 0)) rfl ?_
                exact mm_rt rfl ⟨rfl, Or.inl rfl⟩ ⟨by unfold r_D_addStep; rw [if_neg h1, if_neg h2, if_neg h3, if_neg h4, if_neg h5, if_pos h6, if_pos h7], rfl, by unfold n_D_addStep; rw [if_neg h1, if_neg h2, if_neg h3, if_neg h4, if_neg h5, if_pos h6, if_pos h7]⟩
              · skip
                refine mm_go 6 (Y := (74, [(0, .inr (some 0)), (1, .inl k), (2, .inl o), (3, .inl t), (4, .inl v)], [.inl v, .inl t, .inl o, .inl k, .inr (some 1)], shW, N, 0, 0)) rfl ?_
                refine mm_ca rfl ⟨⟨_, rfl⟩, rfl, Nat.le_of_ble_eq_true rfl, Nat.le_of_ble_eq_true rfl⟩ (d' := 2) (by decide) (c_K_append N k o t v ⟨by omega, by omega⟩ ⟨by first | omega | (simp [mm_f2_at, mm_f0_at]; omega), by first | omega | (simp [mm_f2_at, mm_f0_at]; omega)⟩) ?_
                rintro _ _ _ ⟨rfl, rfl, rfl⟩
                refine mm_go 0 (Y := (77, [(0, .inr (some 0)), (1, .inl k), (2, .inl o), (3, .inl t), (4, .inl v)], [.inl (N 2 (k.toNat))], shW, (mm_f2 (mm_f2 (mm_f2 (mm_f2 N 3 (((4 * k) + ((N 2 (k.toNat)))).toNat) o) 4 (((4 * k) + ((N 2 (k.toNat)))).toNat) t) 5 (((4 * k) + ((N 2 (k.toNat)))).toNat) v) 2 (k.toNat) (((N 2 (k.toNat))) + 1)), 0, 0)) rfl ?_
                exact mm_rt rfl ⟨rfl, Or.inl rfl⟩ ⟨by unfold r_D_addStep; rw [if_neg h1, if_neg h2, if_neg h3, if_neg h4, if_neg h5, if_pos h6, if_neg h7], rfl, by unfold n_D_addStep; rw [if_neg h1, if_neg h2, if_neg h3, if_neg h4, if_neg h5, if_pos h6, if_neg h7]⟩
            · skip
              refine mm_go 1 (Y := (49, [(0, .inr (some 0)), (1, .inl k), (2, .inl o), (3, .inl t), (4, .inl v)], [.inl (-4)], shW, N, 0, 0)) rfl ?_
              exact mm_rt rfl ⟨rfl, Or.inl rfl⟩ ⟨by unfold r_D_addStep; rw [if_neg h1, if_neg h2, if_neg h3, if_neg h4, if_neg h5, if_neg h6], rfl, by unfold n_D_addStep; rw [if_neg h1, if_neg h2, if_neg h3, if_neg h4, if_neg h5, if_neg h6]⟩
def r_D_supply (N : mm_N) (d : Int) (t : Int) (v : Int) : Int := if (r_D_isBelow N d 2) = 0 then 0 else (if (r_D_isBelow N t 8) = 0 then 0 else (if v < 0 then 0 else (if 1000 < v then 0 else (if (N 0 7) = 0 then 1 else 0))))
def n_D_supply (N : mm_N) (d : Int) (t : Int) (v : Int) : mm_N := if (r_D_isBelow N d 2) = 0 then N else (if (r_D_isBelow N t 8) = 0 then N else (if v < 0 then N else (if 1000 < v then N else (if (N 0 7) = 0 then (mm_f2 N (8 + 3 * (d.toNat)) (t.toNat) v) else N))))
theorem c_D_supply {L : Nat} {xs : Nat → Int} (N : mm_N) (d : Int) (t : Int) (v : Int) : mm_Cl mm_pf mm_bd L xs mm_pr 2 11 [.inr (some 0), .inl d, .inl t, .inl v] shW N (fun r sh N' => r = some (.inl (r_D_supply N d t v)) ∧ sh = shW ∧ n_D_supply N d t v = N') := by
  refine mm_start p_D_supply ?_
  refine mm_go 2 (Y := (2, [(0, .inr (some 0)), (1, .inl d), (2, .inl t), (3, .inl v)], [.inl 2, .inl d], shW, N, 0, 0)) rfl ?_
  refine mm_ca rfl ⟨Nat.le_of_ble_eq_true rfl, rfl, Nat.le_of_ble_eq_true rfl, Nat.le_of_ble_eq_true rfl⟩ (d' := 1) (by decide) (c_D_isBelow N d 2) ?_
  rintro _ _ _ ⟨rfl, rfl, rfl⟩
  refine mm_go 0 (Y := (5, [(0, .inr (some 0)), (1, .inl d), (2, .inl t), (3, .inl v)], [.inl (r_D_isBelow N d 2)], shW, N, 0, 0)) rfl ?_
  refine mm_go 1 (Y := (if (r_D_isBelow N d 2) = 0 then 35 else 8, [(0, .inr (some 0)), (1, .inl d), (2, .inl t), (3, .inl v)], [], shW, N, 0, 0)) rfl ?_
  refine mm_if (fun h1 => ?_) (fun h1 => ?_)
  · skip
    refine mm_go 1 (Y := (36, [(0, .inr (some 0)), (1, .inl d), (2, .inl t), (3, .inl v)], [.inl 0], shW, N, 0, 0)) rfl ?_
    exact mm_rt rfl ⟨rfl, Or.inr ⟨rfl, (Or.inl rfl)⟩⟩ ⟨by unfold r_D_supply; rw [if_pos h1], rfl, by unfold n_D_supply; rw [if_pos h1]⟩
  · skip
    have bh1 := b_isBelow h1
    refine mm_go 2 (Y := (11, [(0, .inr (some 0)), (1, .inl d), (2, .inl t), (3, .inl v)], [.inl 8, .inl t], shW, N, 0, 0)) rfl ?_
    refine mm_ca rfl ⟨Nat.le_of_ble_eq_true rfl, rfl, Nat.le_of_ble_eq_true rfl, Nat.le_of_ble_eq_true rfl⟩ (d' := 1) (by decide) (c_D_isBelow N t 8) ?_
    rintro _ _ _ ⟨rfl, rfl, rfl⟩
    refine mm_go 0 (Y := (14, [(0, .inr (some 0)), (1, .inl d), (2, .inl t), (3, .inl v)], [.inl (r_D_isBelow N t 8)], shW, N, 0, 0)) rfl ?_
    refine mm_go 1 (Y := (if (r_D_isBelow N t 8) = 0 then 35 else 17, [(0, .inr (some 0)), (1, .inl d), (2, .inl t), (3, .inl v)], [], shW, N, 0, 0)) rfl ?_
    refine mm_if (fun h2 => ?_) (fun h2 => ?_)
    · skip
      refine mm_go 1 (Y := (36, [(0, .inr (some 0)), (1, .inl d), (2, .inl t), (3, .inl v)], [.inl 0], shW, N, 0, 0)) rfl ?_
      exact mm_rt rfl ⟨rfl, Or.inr ⟨rfl, (Or.inl rfl)⟩⟩ ⟨by unfold r_D_supply; rw [if_neg h1, if_pos h2], rfl, by unfold n_D_supply; rw [if_neg h1, if_pos h2]⟩
    · skip
      have bh2 := b_isBelow h2
      refine mm_go 2 (Y := (if v < 0 then 35 else 21, [(0, .inr (some 0)), (1, .inl d), (2, .inl t), (3, .inl v)], [], shW, N, 0, 0)) rfl ?_
      refine mm_if (fun h3 => ?_) (fun h3 => ?_)
      · skip
        refine mm_go 1 (Y := (36, [(0, .inr (some 0)), (1, .inl d), (2, .inl t), (3, .inl v)], [.inl 0], shW, N, 0, 0)) rfl ?_
        exact mm_rt rfl ⟨rfl, Or.inr ⟨rfl, (Or.inl rfl)⟩⟩ ⟨by unfold r_D_supply; rw [if_neg h1, if_neg h2, if_pos h3], rfl, by unfold n_D_supply; rw [if_neg h1, if_neg h2, if_pos h3]⟩
      · skip
        refine mm_go 3 (Y := (if 1000 < v then 35 else 28, [(0, .inr (some 0)), (1, .inl d), (2, .inl t), (3, .inl v)], [], shW, N, 0, 0)) rfl ?_
        refine mm_if (fun h4 => ?_) (fun h4 => ?_)
        · skip
          refine mm_go 1 (Y := (36, [(0, .inr (some 0)), (1, .inl d), (2, .inl t), (3, .inl v)], [.inl 0], shW, N, 0, 0)) rfl ?_
          exact mm_rt rfl ⟨rfl, Or.inr ⟨rfl, (Or.inl rfl)⟩⟩ ⟨by unfold r_D_supply; rw [if_neg h1, if_neg h2, if_neg h3, if_pos h4], rfl, by unfold n_D_supply; rw [if_neg h1, if_neg h2, if_neg h3, if_pos h4]⟩
        · skip
          refine mm_go 3 (Y := (if (N 0 7) = 0 then 37 else 35, [(0, .inr (some 0)), (1, .inl d), (2, .inl t), (3, .inl v)], [], shW, N, 0, 0)) rfl ?_
          refine mm_if (fun h5 => ?_) (fun h5 => ?_)
          · skip
            refine mm_go 3 (Y := (42, [(0, .inr (some 0)), (1, .inl d), (2, .inl t), (3, .inl v)], [.inl d, .inr (some 6)], shW, N, 0, 0)) rfl ?_
            refine mm_al rfl rfl (by decide) ⟨by omega, by omega⟩ (sv_at (by omega) (by omega)) (Y := (43, [(0, .inr (some 0)), (1, .inl d), (2, .inl t), (3, .inl v)], [.inr (some (7 + 3 * d.toNat))], shW, N, 0, 0)) rfl ?_
            refine mm_go 2 (Y := (45, [(0, .inr (some 0)), (1, .inl d), (2, .inl t), (3, .inl v)], [.inl v, .inl t, .inr (some (7 + 3 * d.toNat))], shW, N, 0, 0)) rfl ?_
            refine mm_ca rfl ⟨⟨_, sv_o (n := d.toNat) (by omega)⟩, rfl, Nat.le_of_ble_eq_true rfl, Nat.le_of_ble_eq_true rfl⟩ (d' := 1) (by decide) (c_V_stock N (d.toNat) t v (by omega) ⟨by omega, by omega⟩) ?_
            rintro _ _ _ ⟨rfl, rfl, rfl⟩
            refine mm_go 0 (Y := (48, [(0, .inr (some 0)), (1, .inl d), (2, .inl t), (3, .inl v)], [], shW, (mm_f2 N (8 + 3 * (d.toNat)) (t.toNat) v), 0, 0)) rfl ?_
            refine mm_go 1 (Y := (49, [(0, .inr (some 0)), (1, .inl d), (2, .inl t), (3, .inl v)], [.inl 1], shW, (mm_f2 N (8 + 3 * (d.toNat)) (t.toNat) v), 0, 0)) rfl ?_
            exact mm_rt rfl ⟨rfl, Or.inr ⟨rfl, (Or.inr rfl)⟩⟩ ⟨by unfold r_D_supply; rw [if_neg h1, if_neg h2, if_neg h3, if_neg h4, if_pos h5], rfl, by unfold n_D_supply; rw [if_neg h1, if_neg h2, if_neg h3, if_neg h4, if_pos h5]⟩
          · skip
            refine mm_go 1 (Y := (36, [(0, .inr (some 0)), (1, .inl d), (2, .inl t), (3, .inl v)], [.inl 0], shW, N, 0, 0)) rfl ?_
            exact mm_rt rfl ⟨rfl, Or.inr ⟨rfl, (Or.inl rfl)⟩⟩ ⟨by unfold r_D_supply; rw [if_neg h1, if_neg h2, if_neg h3, if_neg h4, if_neg h5], rfl, by unfold n_D_supply; rw [if_neg h1, if_neg h2, if_neg h3, if_neg h4, if_neg h5]⟩
def r_D_begin (N : mm_N) (k : Int) : Int := if (r_D_isBelow N k 4) = 0 then (-1) else (if (N 2 (k.toNat)) = 0 then (-1) else (if (N 13 2) = 0 then (-2) else (if (N 0 6) = 12 then (-3) else (N 0 6))))
def n_D_begin (N : mm_N) (k : Int) : mm_N := if (r_D_isBelow N k 4) = 0 then N else (if (N 2 (k.toNat)) = 0 then N else (if (N 13 2) = 0 then N else (if (N 0 6) = 12 then N else (n_D_readRecord (mm_f2 (mm_f2 (mm_f2 (mm_f2 (mm_f2 N 0 7 1) 17 ((((N 16 1))).toNat) 1) 17 (((((N 16 1))) + 1).toNat) (N 0 6)) 17 (((((N 16 1))) + 2).toNat) k) 16 1 ((((N 16 1))) + 3)) (((((((N 16 1))) + 3)) / 3) - 1)))))
theorem c_D_begin {L : Nat} {xs : Nat → Int} (N : mm_N) (k : Int) (hK : cK N) (hS : cS N) (hc : 0 ≤ N 0 6 ∧ N 0 6 < 13) (hw : 0 ≤ N 16 1 ∧ N 16 1 < 289) (hm : ¬ N 13 2 = 0 → N 16 1 % 3 = 0) (hroom : ¬ N 0 6 = 12 → ¬ 288 < ((N 16 1) + 3)) : mm_Cl mm_pf mm_bd L xs mm_pr 4 13 [.inr (some 0), .inl k] shW N (fun r sh N' => r = some (.inl (r_D_begin N k)) ∧ sh = shW ∧ n_D_begin N k = N') := by
  refine mm_start p_D_begin ?_
  refine mm_go 2 (Y := (2, [(0, .inr (some 0)), (1, .inl k)], [.inl 4, .inl k], shW, N, 0, 0)) rfl ?_
  refine mm_ca rfl ⟨Nat.le_of_ble_eq_true rfl, rfl, Nat.le_of_ble_eq_true rfl, Nat.le_of_ble_eq_true rfl⟩ (d' := 1) (by decide) (c_D_isBelow N k 4) ?_
  rintro _ _ _ ⟨rfl, rfl, rfl⟩
  refine mm_go 0 (Y := (5, [(0, .inr (some 0)), (1, .inl k)], [.inl (r_D_isBelow N k 4)], shW, N, 0, 0)) rfl ?_
  refine mm_go 1 (Y := (if (r_D_isBelow N k 4) = 0 then 19 else 8, [(0, .inr (some 0)), (1, .inl k)], [], shW, N, 0, 0)) rfl ?_
  refine mm_if (fun h1 => ?_) (fun h1 => ?_)
  · skip
    refine mm_go 1 (Y := (20, [(0, .inr (some 0)), (1, .inl k)], [.inl (-1)], shW, N, 0, 0)) rfl ?_
    exact mm_rt rfl ⟨rfl, Or.inl rfl⟩ ⟨by unfold r_D_begin; rw [if_pos h1], rfl, by unfold n_D_begin; rw [if_pos h1]⟩
  · skip
    have bh1 := b_isBelow h1
    refine mm_go 3 (Y := (13, [(0, .inr (some 0)), (1, .inl k)], [.inl k, .inr (some 1)], shW, N, 0, 0)) rfl ?_
    refine mm_ca rfl ⟨⟨_, rfl⟩, rfl, Nat.le_of_ble_eq_true rfl, Nat.le_of_ble_eq_true rfl⟩ (d' := 1) (by decide) (c_K_stepCount N k ⟨by omega, by omega⟩) ?_
    rintro _ _ _ ⟨rfl, rfl, rfl⟩
    refine mm_go 0 (Y := (16, [(0, .inr (some 0)), (1, .inl k)], [.inl (N 2 (k.toNat))], shW, N, 0, 0)) rfl ?_
    refine mm_go 1 (Y := (if (N 2 (k.toNat)) = 0 then 19 else 21, [(0, .inr (some 0)), (1, .inl k)], [], shW, N, 0, 0)) rfl ?_
    refine mm_if (fun h2 => ?_) (fun h2 => ?_)
    · skip
      refine mm_go 1 (Y := (20, [(0, .inr (some 0)), (1, .inl k)], [.inl (-1)], shW, N, 0, 0)) rfl ?_
      exact mm_rt rfl ⟨rfl, Or.inl rfl⟩ ⟨by unfold r_D_begin; rw [if_neg h1, if_pos h2], rfl, by unfold n_D_begin; rw [if_neg h1, if_pos h2]⟩
    · skip
      refine mm_go 3 (Y := (26, [(0, .inr (some 0)), (1, .inl k)], [.inl 2, .inr (some 13)], shW, N, 0, 0)) rfl ?_
      refine mm_cd (Y := (27, [(0, .inr (some 0)), (1, .inl k)], [.inl (N 13 2)], shW, N, 0, 0)) rfl ⟨by omega, by omega⟩ ?_
      refine mm_go 1 (Y := (if (N 13 2) = 0 then 30 else 33, [(0, .inr (some 0)), (1, .inl k)], [], shW, N, 0, 0)) rfl ?_
      refine mm_if (fun h3 => ?_) (fun h3 => ?_)
      · skip
        refine mm_go 1 (Y := (32, [(0, .inr (some 0)), (1, .inl k)], [.inl (-2)], shW, N, 0, 0)) rfl ?_
        exact mm_rt rfl ⟨rfl, Or.inl rfl⟩ ⟨by unfold r_D_begin; rw [if_neg h1, if_neg h2, if_pos h3], rfl, by unfold n_D_begin; rw [if_neg h1, if_neg h2, if_pos h3]⟩
      · skip
        refine mm_go 4 (Y := (if (N 0 6) = 12 then 42 else 45, [(0, .inr (some 0)), (1, .inl k)], [], shW, N, 0, 0)) rfl ?_
        refine mm_if (fun h4 => ?_) (fun h4 => ?_)
        · skip
          refine mm_go 1 (Y := (44, [(0, .inr (some 0)), (1, .inl k)], [.inl (-3)], shW, N, 0, 0)) rfl ?_
          exact mm_rt rfl ⟨rfl, Or.inl rfl⟩ ⟨by unfold r_D_begin; rw [if_neg h1, if_neg h2, if_neg h3, if_pos h4], rfl, by unfold n_D_begin; rw [if_neg h1, if_neg h2, if_neg h3, if_pos h4]⟩
        · skip
          refine mm_go 5 (Y := (52, [(2, .inl (N 0 6)), (0, .inr (some 0)), (1, .inl k)], [.inl 1, .inr (some 0)], shW, N, 0, 0)) rfl ?_
          refine mm_cd (Y := (55, [(2, .inl (N 0 6)), (0, .inr (some 0)), (1, .inl k)], [], shW, (mm_f2 N 0 7 1), 0, 0)) rfl (Or.inr rfl) ?_
          refine mm_go 4 (Y := (59, [(2, .inl (N 0 6)), (0, .inr (some 0)), (1, .inl k)], [.inl k, .inl (N 0 6), .inl 1, .inr (some 0)], shW, (mm_f2 N 0 7 1), 0, 0)) rfl ?_
          refine mm_ca rfl ⟨⟨_, rfl⟩, rfl, Nat.le_of_ble_eq_true rfl, Nat.le_of_ble_eq_true rfl⟩ (d' := 3) (by decide) (c_D_writeRecord (mm_f2 N 0 7 1) 1 (N 0 6) k hw (hm (by assumption)) (hroom (by assumption)) ⟨by omega, by omega⟩ (cS_mv hS rfl (fun i hi => mm_f2_row (by omega))) hK ⟨hc.1, by show N 0 6 < 1000; omega⟩) ?_
          rintro _ _ _ ⟨rfl, rfl, rfl⟩
          refine mm_go 0 (Y := (62, [(2, .inl (N 0 6)), (0, .inr (some 0)), (1, .inl k)], [], shW, (n_D_readRecord (mm_f2 (mm_f2 (mm_f2 (mm_f2 (mm_f2 N 0 7 1) 17 ((((N 16 1))).toNat) 1) 17 (((((N 16 1))) + 1).toNat) (N 0 6)) 17 (((((N 16 1))) + 2).toNat) k) 16 1 ((((N 16 1))) + 3)) (((((((N 16 1))) + 3)) / 3) - 1)), 0, 0)) rfl ?_
          refine mm_go 1 (Y := (63, [(2, .inl (N 0 6)), (0, .inr (some 0)), (1, .inl k)], [.inl (N 0 6)], shW, (n_D_readRecord (mm_f2 (mm_f2 (mm_f2 (mm_f2 (mm_f2 N 0 7 1) 17 ((((N 16 1))).toNat) 1) 17 (((((N 16 1))) + 1).toNat) (N 0 6)) 17 (((((N 16 1))) + 2).toNat) k) 16 1 ((((N 16 1))) + 3)) (((((((N 16 1))) + 3)) / 3) - 1)), 0, 0)) rfl ?_
          exact mm_rt rfl ⟨rfl, Or.inl rfl⟩ ⟨by unfold r_D_begin; rw [if_neg h1, if_neg h2, if_neg h3, if_neg h4], rfl, by unfold n_D_begin; rw [if_neg h1, if_neg h2, if_neg h3, if_neg h4]⟩
def r_D_takeRequest (N : mm_N) (m : Int) : Int := if (N 13 (((m % 10) / 2).toNat)) = 0 then 6 else (if (N (9 + 3 * (((m % 10) / 2).toNat)) ((r_D_nameOf N m).toNat)) = 0 then (if (r_V_attempt N (((m % 10) / 2).toNat) ((4 * (N (19 + ((m / 1000).toNat)) 0)) + ((m / 100) % 10)) (r_D_isToUndo N m)) = 2 then 1 else 2) else 3)
def n_D_takeRequest (N : mm_N) (m : Int) : mm_N := if (N 13 (((m % 10) / 2).toNat)) = 0 then N else (if (N (9 + 3 * (((m % 10) / 2).toNat)) ((r_D_nameOf N m).toNat)) = 0 then (n_L_put (mm_f2 (mm_f2 (n_V_attempt N (((m % 10) / 2).toNat) ((4 * (N (19 + ((m / 1000).toNat)) 0)) + ((m / 100) % 10)) (r_D_isToUndo N m)) (9 + 3 * (((m % 10) / 2).toNat)) ((r_D_nameOf N m).toNat) (r_V_attempt N (((m % 10) / 2).toNat) ((4 * (N (19 + ((m / 1000).toNat)) 0)) + ((m / 100) % 10)) (r_D_isToUndo N m))) (7 + 3 * (((m % 10) / 2).toNat)) 2 (((mm_f2 (n_V_attempt N (((m % 10) / 2).toNat) ((4 * (N (19 + ((m / 1000).toNat)) 0)) + ((m / 100) % 10)) (r_D_isToUndo N m)) (9 + 3 * (((m % 10) / 2).toNat)) ((r_D_nameOf N m).toNat) (r_V_attempt N (((m % 10) / 2).toNat) ((4 * (N (19 + ((m / 1000).toNat)) 0)) + ((m / 100) % 10)) (r_D_isToUndo N m))) (7 + 3 * (((m % 10) / 2).toNat)) 2) + 1)) (m + (10 * (r_V_attempt N (((m % 10) / 2).toNat) ((4 * (N (19 + ((m / 1000).toNat)) 0)) + ((m / 100) % 10)) (r_D_isToUndo N m))))) else (n_L_put N (m + (10 * (N (9 + 3 * (((m % 10) / 2).toNat)) ((r_D_nameOf N m).toNat))))))
theorem c_D_takeRequest {L : Nat} {xs : Nat → Int} (N : mm_N) (m : Int) (hq : tQ N m) : mm_Cl mm_pf mm_bd L xs mm_pr 3 41 [.inr (some 0), .inl m] shW N (fun r sh N' => r = some (.inl (r_D_takeRequest N m)) ∧ sh = shW ∧ n_D_takeRequest N m = N') := by
  refine mm_start p_D_takeRequest ?_
  obtain ⟨hm, hn, hs, ht, hS, hK, hv, ha, hc⟩ := hq
  have g := hS (m / 1000).toNat (by omega)
  have k := hK.1 (N (19 + (m / 1000).toNat) 0).toNat (by omega)
  have nm := nm_96 (N := N) hm hs ht
  refine mm_go 1 (Y := (1, [(0, .inr (some 0)), (1, .inl m)], [.inl m], shW, N, 0, 0)) rfl ?_
  refine mm_ca rfl ⟨Nat.le_of_ble_eq_true rfl, rfl, Nat.le_of_ble_eq_true rfl, Nat.le_of_ble_eq_true rfl⟩ (d' := 1) (by decide) (c_D_nodeOf N m ⟨by omega, by omega⟩) ?_
  rintro _ _ _ ⟨rfl, rfl, rfl⟩
  refine mm_go 0 (Y := (4, [(0, .inr (some 0)), (1, .inl m)], [.inl ((m % 10) / 2)], shW, N, 0, 0)) rfl ?_
  refine mm_go 4 (Y := (10, [(2, .inl ((m % 10) / 2)), (0, .inr (some 0)), (1, .inl m)], [.inl ((m % 10) / 2), .inr (some 13)], shW, N, 0, 0)) rfl ?_
  refine mm_cd (Y := (11, [(2, .inl ((m % 10) / 2)), (0, .inr (some 0)), (1, .inl m)], [.inl (N 13 (((m % 10) / 2).toNat))], shW, N, 0, 0)) rfl ⟨by omega, by omega⟩ ?_
  refine mm_go 1 (Y := (if (N 13 (((m % 10) / 2).toNat)) = 0 then 14 else 17, [(2, .inl ((m % 10) / 2)), (0, .inr (some 0)), (1, .inl m)], [], shW, N, 0, 0)) rfl ?_
  refine mm_if (fun h1 => ?_) (fun h1 => ?_)
  · skip
    refine mm_go 1 (Y := (16, [(2, .inl ((m % 10) / 2)), (0, .inr (some 0)), (1, .inl m)], [.inl 6], shW, N, 0, 0)) rfl ?_
    exact mm_rt rfl ⟨rfl, Or.inl rfl⟩ ⟨by unfold r_D_takeRequest; rw [if_pos h1], rfl, by unfold n_D_takeRequest; rw [if_pos h1]⟩
  · skip
    refine mm_go 3 (Y := (22, [(2, .inl ((m % 10) / 2)), (0, .inr (some 0)), (1, .inl m)], [.inl ((m % 10) / 2), .inr (some 6)], shW, N, 0, 0)) rfl ?_
    refine mm_al rfl rfl (by decide) ⟨by omega, by omega⟩ (sv_at (by omega) (by omega)) (Y := (23, [(2, .inl ((m % 10) / 2)), (0, .inr (some 0)), (1, .inl m)], [.inr (some (7 + 3 * ((m % 10) / 2).toNat))], shW, N, 0, 0)) rfl ?_
    refine mm_go 2 (Y := (25, [(3, .inr (some (7 + 3 * ((m % 10) / 2).toNat))), (2, .inl ((m % 10) / 2)), (0, .inr (some 0)), (1, .inl m)], [.inl m], shW, N, 0, 0)) rfl ?_
    refine mm_ca rfl ⟨Nat.le_of_ble_eq_true rfl, rfl, Nat.le_of_ble_eq_true rfl, Nat.le_of_ble_eq_true rfl⟩ (d' := 2) (by decide) (c_D_nameOf N m ⟨by omega, by omega⟩) ?_
    rintro _ _ _ ⟨rfl, rfl, rfl⟩
    refine mm_go 0 (Y := (28, [(3, .inr (some (7 + 3 * ((m % 10) / 2).toNat))), (2, .inl ((m % 10) / 2)), (0, .inr (some 0)), (1, .inl m)], [.inl (r_D_nameOf N m)], shW, N, 0, 0)) rfl ?_
    refine mm_go 3 (Y := (33, [(4, .inl (r_D_nameOf N m)), (3, .inr (some (7 + 3 * ((m % 10) / 2).toNat))), (2, .inl ((m % 10) / 2)), (0, .inr (some 0)), (1, .inl m)], [.inl (r_D_nameOf N m), .inr (some (7 + 3 * ((m % 10) / 2).toNat))], shW, N, 0, 0)) rfl ?_
    refine mm_ca rfl ⟨⟨_, sv_o (n := ((m % 10) / 2).toNat) (by omega)⟩, rfl, Nat.le_of_ble_eq_true rfl, Nat.le_of_ble_eq_true rfl⟩ (d' := 1) (by decide) (c_V_answerTo N (((m % 10) / 2).toNat) (r_D_nameOf N m) (by omega) ⟨by omega, by omega⟩) ?_
    rintro _ _ _ ⟨rfl, rfl, rfl⟩
    refine mm_go 0 (Y := (36, [(4, .inl (r_D_nameOf N m)), (3, .inr (some (7 + 3 * ((m % 10) / 2).toNat))), (2, .inl ((m % 10) / 2)), (0, .inr (some 0)), (1, .inl m)], [.inl (N (9 + 3 * (((m % 10) / 2).toNat)) ((r_D_nameOf N m).toNat))], shW, N, 0, 0)) rfl ?_
    refine mm_go 1 (Y := (38, [(5, .inl (N (9 + 3 * (((m % 10) / 2).toNat)) ((r_D_nameOf N m).toNat))), (4, .inl (r_D_nameOf N m)), (3, .inr (some (7 + 3 * ((m % 10) / 2).toNat))), (2, .inl ((m % 10) / 2)), (0, .inr (some 0)), (1, .inl m)], [], shW, N, 0, 0)) rfl ?_
    have ka := ha ((m % 10) / 2).toNat (by omega) (r_D_nameOf N m).toNat (by omega)
    refine mm_go 2 (Y := (if (N (9 + 3 * (((m % 10) / 2).toNat)) ((r_D_nameOf N m).toNat)) = 0 then 58 else 43, [(5, .inl (N (9 + 3 * (((m % 10) / 2).toNat)) ((r_D_nameOf N m).toNat))), (4, .inl (r_D_nameOf N m)), (3, .inr (some (7 + 3 * ((m % 10) / 2).toNat))), (2, .inl ((m % 10) / 2)), (0, .inr (some 0)), (1, .inl m)], [], shW, N, 0, 0)) rfl ?_
    refine mm_if (fun h2 => ?_) (fun h2 => ?_)
    · skip
      refine mm_go 5 (Y := (67, [(5, .inl (N (9 + 3 * (((m % 10) / 2).toNat)) ((r_D_nameOf N m).toNat))), (4, .inl (r_D_nameOf N m)), (3, .inr (some (7 + 3 * ((m % 10) / 2).toNat))), (2, .inl ((m % 10) / 2)), (0, .inr (some 0)), (1, .inl m)], [.inl m, .inr (some 18), .inr (some 1)], shW, N, 0, 0)) rfl ?_
      refine mm_ca rfl ⟨Nat.le_of_ble_eq_true rfl, rfl, Nat.le_of_ble_eq_true rfl, Nat.le_of_ble_eq_true rfl⟩ (d' := 1) (by decide) (c_D_sagaOf N m ⟨by omega, by omega⟩) ?_
      rintro _ _ _ ⟨rfl, rfl, rfl⟩
      refine mm_go 0 (Y := (70, [(5, .inl (N (9 + 3 * (((m % 10) / 2).toNat)) ((r_D_nameOf N m).toNat))), (4, .inl (r_D_nameOf N m)), (3, .inr (some (7 + 3 * ((m % 10) / 2).toNat))), (2, .inl ((m % 10) / 2)), (0, .inr (some 0)), (1, .inl m)], [.inl (m / 1000), .inr (some 18), .inr (some 1)], shW, N, 0, 0)) rfl ?_
      refine mm_al rfl rfl (by decide) ⟨by omega, by omega⟩ (sg_at (by omega) (by omega)) (Y := (71, [(5, .inl (N (9 + 3 * (((m % 10) / 2).toNat)) ((r_D_nameOf N m).toNat))), (4, .inl (r_D_nameOf N m)), (3, .inr (some (7 + 3 * ((m % 10) / 2).toNat))), (2, .inl ((m % 10) / 2)), (0, .inr (some 0)), (1, .inl m)], [.inr (some (19 + (m / 1000).toNat)), .inr (some 1)], shW, N, 0, 0)) rfl ?_
      refine mm_ca rfl ⟨⟨_, sg_o (n := (m / 1000).toNat) (by omega)⟩, rfl, Nat.le_of_ble_eq_true rfl, Nat.le_of_ble_eq_true rfl⟩ (d' := 1) (by decide) (c_S_kindNumber N ((m / 1000).toNat) (by omega)) ?_
      rintro _ _ _ ⟨rfl, rfl, rfl⟩
      refine mm_go 0 (Y := (74, [(5, .inl (N (9 + 3 * (((m % 10) / 2).toNat)) ((r_D_nameOf N m).toNat))), (4, .inl (r_D_nameOf N m)), (3, .inr (some (7 + 3 * ((m % 10) / 2).toNat))), (2, .inl ((m % 10) / 2)), (0, .inr (some 0)), (1, .inl m)], [.inl (N (19 + ((m / 1000).toNat)) 0), .inr (some 1)], shW, N, 0, 0)) rfl ?_
      refine mm_go 1 (Y := (75, [(5, .inl (N (9 + 3 * (((m % 10) / 2).toNat)) ((r_D_nameOf N m).toNat))), (4, .inl (r_D_nameOf N m)), (3, .inr (some (7 + 3 * ((m % 10) / 2).toNat))), (2, .inl ((m % 10) / 2)), (0, .inr (some 0)), (1, .inl m)], [.inl m, .inl (N (19 + ((m / 1000).toNat)) 0), .inr (some 1)], shW, N, 0, 0)) rfl ?_
      refine mm_ca rfl ⟨Nat.le_of_ble_eq_true rfl, rfl, Nat.le_of_ble_eq_true rfl, Nat.le_of_ble_eq_true rfl⟩ (d' := 1) (by decide) (c_D_stepOf N m ⟨by omega, by omega⟩) ?_
      rintro _ _ _ ⟨rfl, rfl, rfl⟩
      refine mm_go 0 (Y := (78, [(5, .inl (N (9 + 3 * (((m % 10) / 2).toNat)) ((r_D_nameOf N m).toNat))), (4, .inl (r_D_nameOf N m)), (3, .inr (some (7 + 3 * ((m % 10) / 2).toNat))), (2, .inl ((m % 10) / 2)), (0, .inr (some 0)), (1, .inl m)], [.inl ((m / 100) % 10), .inl (N (19 + ((m / 1000).toNat)) 0), .inr (some 1)], shW, N, 0, 0)) rfl ?_
      refine mm_ca rfl ⟨⟨_, rfl⟩, rfl, Nat.le_of_ble_eq_true rfl, Nat.le_of_ble_eq_true rfl⟩ (d' := 1) (by decide) (c_K_slot N (N (19 + ((m / 1000).toNat)) 0) ((m / 100) % 10) ⟨by omega, by omega⟩ ⟨by omega, by omega⟩) ?_
      rintro _ _ _ ⟨rfl, rfl, rfl⟩
      refine mm_go 0 (Y := (81, [(5, .inl (N (9 + 3 * (((m % 10) / 2).toNat)) ((r_D_nameOf N m).toNat))), (4, .inl (r_D_nameOf N m)), (3, .inr (some (7 + 3 * ((m % 10) / 2).toNat))), (2, .inl ((m % 10) / 2)), (0, .inr (some 0)), (1, .inl m)], [.inl ((4 * (N (19 + ((m / 1000).toNat)) 0)) + ((m / 100) % 10))], shW, N, 0, 0)) rfl ?_
      refine mm_go 6 (Y := (91, [(6, .inl ((4 * (N (19 + ((m / 1000).toNat)) 0)) + ((m / 100) % 10))), (5, .inl (N (9 + 3 * (((m % 10) / 2).toNat)) ((r_D_nameOf N m).toNat))), (4, .inl (r_D_nameOf N m)), (3, .inr (some (7 + 3 * ((m % 10) / 2).toNat))), (2, .inl ((m % 10) / 2)), (0, .inr (some 0)), (1, .inl m)], [.inl m, .inl ((4 * (N (19 + ((m / 1000).toNat)) 0)) + ((m / 100) % 10)), .inr (some 1), .inr (some (7 + 3 * ((m % 10) / 2).toNat))], shW, N, 0, 0)) rfl ?_
      refine mm_ca rfl ⟨Nat.le_of_ble_eq_true rfl, rfl, Nat.le_of_ble_eq_true rfl, Nat.le_of_ble_eq_true rfl⟩ (d' := 1) (by decide) (c_D_isToUndo N m ⟨by omega, by omega⟩) ?_
      rintro _ _ _ ⟨rfl, rfl, rfl⟩
      refine mm_go 0 (Y := (94, [(6, .inl ((4 * (N (19 + ((m / 1000).toNat)) 0)) + ((m / 100) % 10))), (5, .inl (N (9 + 3 * (((m % 10) / 2).toNat)) ((r_D_nameOf N m).toNat))), (4, .inl (r_D_nameOf N m)), (3, .inr (some (7 + 3 * ((m % 10) / 2).toNat))), (2, .inl ((m % 10) / 2)), (0, .inr (some 0)), (1, .inl m)], [.inl (r_D_isToUndo N m), .inl ((4 * (N (19 + ((m / 1000).toNat)) 0)) + ((m / 100) % 10)), .inr (some 1), .inr (some (7 + 3 * ((m % 10) / 2).toNat))], shW, N, 0, 0)) rfl ?_
      refine mm_ca rfl ⟨⟨_, sv_o (n := ((m % 10) / 2).toNat) (by omega)⟩, rfl, Nat.le_of_ble_eq_true rfl, Nat.le_of_ble_eq_true rfl⟩ (d' := 2) (by decide) (c_V_attempt N (((m % 10) / 2).toNat) ((4 * (N (19 + ((m / 1000).toNat)) 0)) + ((m / 100) % 10)) (r_D_isToUndo N m) (by omega) ⟨by omega, by omega⟩ (hK.2 _ (by omega)).2) ?_
      rintro _ _ _ ⟨rfl, rfl, rfl⟩
      refine mm_go 0 (Y := (97, [(6, .inl ((4 * (N (19 + ((m / 1000).toNat)) 0)) + ((m / 100) % 10))), (5, .inl (N (9 + 3 * (((m % 10) / 2).toNat)) ((r_D_nameOf N m).toNat))), (4, .inl (r_D_nameOf N m)), (3, .inr (some (7 + 3 * ((m % 10) / 2).toNat))), (2, .inl ((m % 10) / 2)), (0, .inr (some 0)), (1, .inl m)], [.inl (r_V_attempt N (((m % 10) / 2).toNat) ((4 * (N (19 + ((m / 1000).toNat)) 0)) + ((m / 100) % 10)) (r_D_isToUndo N m))], shW, (n_V_attempt N (((m % 10) / 2).toNat) ((4 * (N (19 + ((m / 1000).toNat)) 0)) + ((m / 100) % 10)) (r_D_isToUndo N m)), 0, 0)) rfl ?_
      have k3 := at_12 N ((m % 10) / 2).toNat ((4 * (N (19 + (m / 1000).toNat) 0)) + ((m / 100) % 10)) (r_D_isToUndo N m)
      refine mm_go 4 (Y := (104, [(7, .inl (r_V_attempt N (((m % 10) / 2).toNat) ((4 * (N (19 + ((m / 1000).toNat)) 0)) + ((m / 100) % 10)) (r_D_isToUndo N m))), (6, .inl ((4 * (N (19 + ((m / 1000).toNat)) 0)) + ((m / 100) % 10))), (5, .inl (N (9 + 3 * (((m % 10) / 2).toNat)) ((r_D_nameOf N m).toNat))), (4, .inl (r_D_nameOf N m)), (3, .inr (some (7 + 3 * ((m % 10) / 2).toNat))), (2, .inl ((m % 10) / 2)), (0, .inr (some 0)), (1, .inl m)], [.inl (r_V_attempt N (((m % 10) / 2).toNat) ((4 * (N (19 + ((m / 1000).toNat)) 0)) + ((m / 100) % 10)) (r_D_isToUndo N m)), .inl (r_D_nameOf N m), .inr (some (7 + 3 * ((m % 10) / 2).toNat))], shW, (n_V_attempt N (((m % 10) / 2).toNat) ((4 * (N (19 + ((m / 1000).toNat)) 0)) + ((m / 100) % 10)) (r_D_isToUndo N m)), 0, 0)) rfl ?_
      refine mm_ca rfl ⟨⟨_, sv_o (n := ((m % 10) / 2).toNat) (by omega)⟩, rfl, Nat.le_of_ble_eq_true rfl, Nat.le_of_ble_eq_true rfl⟩ (d' := 1) (by decide) (c_V_keepAnswer (n_V_attempt N (((m % 10) / 2).toNat) ((4 * (N (19 + ((m / 1000).toNat)) 0)) + ((m / 100) % 10)) (r_D_isToUndo N m)) (((m % 10) / 2).toNat) (r_D_nameOf N m) (r_V_attempt N (((m % 10) / 2).toNat) ((4 * (N (19 + ((m / 1000).toNat)) 0)) + ((m / 100) % 10)) (r_D_isToUndo N m)) (by omega) ⟨by omega, by omega⟩ (by rw [at_row (by omega)]; exact hv _ (by omega))) ?_
      rintro _ _ _ ⟨rfl, rfl, rfl⟩
      refine mm_go 0 (Y := (107, [(7, .inl (r_V_attempt N (((m % 10) / 2).toNat) ((4 * (N (19 + ((m / 1000).toNat)) 0)) + ((m / 100) % 10)) (r_D_isToUndo N m))), (6, .inl ((4 * (N (19 + ((m / 1000).toNat)) 0)) + ((m / 100) % 10))), (5, .inl (N (9 + 3 * (((m % 10) / 2).toNat)) ((r_D_nameOf N m).toNat))), (4, .inl (r_D_nameOf N m)), (3, .inr (some (7 + 3 * ((m % 10) / 2).toNat))), (2, .inl ((m % 10) / 2)), (0, .inr (some 0)), (1, .inl m)], [], shW, (mm_f2 (mm_f2 (n_V_attempt N (((m % 10) / 2).toNat) ((4 * (N (19 + ((m / 1000).toNat)) 0)) + ((m / 100) % 10)) (r_D_isToUndo N m)) (9 + 3 * (((m % 10) / 2).toNat)) ((r_D_nameOf N m).toNat) (r_V_attempt N (((m % 10) / 2).toNat) ((4 * (N (19 + ((m / 1000).toNat)) 0)) + ((m / 100) % 10)) (r_D_isToUndo N m))) (7 + 3 * (((m % 10) / 2).toNat)) 2 (((mm_f2 (n_V_attempt N (((m % 10) / 2).toNat) ((4 * (N (19 + ((m / 1000).toNat)) 0)) + ((m / 100) % 10)) (r_D_isToUndo N m)) (9 + 3 * (((m % 10) / 2).toNat)) ((r_D_nameOf N m).toNat) (r_V_attempt N (((m % 10) / 2).toNat) ((4 * (N (19 + ((m / 1000).toNat)) 0)) + ((m / 100) % 10)) (r_D_isToUndo N m))) (7 + 3 * (((m % 10) / 2).toNat)) 2) + 1)), 0, 0)) rfl ?_
      refine mm_go 4 (Y := (114, [(7, .inl (r_V_attempt N (((m % 10) / 2).toNat) ((4 * (N (19 + ((m / 1000).toNat)) 0)) + ((m / 100) % 10)) (r_D_isToUndo N m))), (6, .inl ((4 * (N (19 + ((m / 1000).toNat)) 0)) + ((m / 100) % 10))), (5, .inl (N (9 + 3 * (((m % 10) / 2).toNat)) ((r_D_nameOf N m).toNat))), (4, .inl (r_D_nameOf N m)), (3, .inr (some (7 + 3 * ((m % 10) / 2).toNat))), (2, .inl ((m % 10) / 2)), (0, .inr (some 0)), (1, .inl m)], [.inl (r_V_attempt N (((m % 10) / 2).toNat) ((4 * (N (19 + ((m / 1000).toNat)) 0)) + ((m / 100) % 10)) (r_D_isToUndo N m)), .inl m, .inr (some 14)], shW, (mm_f2 (mm_f2 (n_V_attempt N (((m % 10) / 2).toNat) ((4 * (N (19 + ((m / 1000).toNat)) 0)) + ((m / 100) % 10)) (r_D_isToUndo N m)) (9 + 3 * (((m % 10) / 2).toNat)) ((r_D_nameOf N m).toNat) (r_V_attempt N (((m % 10) / 2).toNat) ((4 * (N (19 + ((m / 1000).toNat)) 0)) + ((m / 100) % 10)) (r_D_isToUndo N m))) (7 + 3 * (((m % 10) / 2).toNat)) 2 (((mm_f2 (n_V_attempt N (((m % 10) / 2).toNat) ((4 * (N (19 + ((m / 1000).toNat)) 0)) + ((m / 100) % 10)) (r_D_isToUndo N m)) (9 + 3 * (((m % 10) / 2).toNat)) ((r_D_nameOf N m).toNat) (r_V_attempt N (((m % 10) / 2).toNat) ((4 * (N (19 + ((m / 1000).toNat)) 0)) + ((m / 100) % 10)) (r_D_isToUndo N m))) (7 + 3 * (((m % 10) / 2).toNat)) 2) + 1)), 0, 0)) rfl ?_
      refine mm_ca rfl ⟨Nat.le_of_ble_eq_true rfl, rfl, Nat.le_of_ble_eq_true rfl, Nat.le_of_ble_eq_true rfl⟩ (d' := 1) (by decide) (c_D_replyTo (mm_f2 (mm_f2 (n_V_attempt N (((m % 10) / 2).toNat) ((4 * (N (19 + ((m / 1000).toNat)) 0)) + ((m / 100) % 10)) (r_D_isToUndo N m)) (9 + 3 * (((m % 10) / 2).toNat)) ((r_D_nameOf N m).toNat) (r_V_attempt N (((m % 10) / 2).toNat) ((4 * (N (19 + ((m / 1000).toNat)) 0)) + ((m / 100) % 10)) (r_D_isToUndo N m))) (7 + 3 * (((m % 10) / 2).toNat)) 2 (((mm_f2 (n_V_attempt N (((m % 10) / 2).toNat) ((4 * (N (19 + ((m / 1000).toNat)) 0)) + ((m / 100) % 10)) (r_D_isToUndo N m)) (9 + 3 * (((m % 10) / 2).toNat)) ((r_D_nameOf N m).toNat) (r_V_attempt N (((m % 10) / 2).toNat) ((4 * (N (19 + ((m / 1000).toNat)) 0)) + ((m / 100) % 10)) (r_D_isToUndo N m))) (7 + 3 * (((m % 10) / 2).toNat)) 2) + 1)) m (r_V_attempt N (((m % 10) / 2).toNat) ((4 * (N (19 + ((m / 1000).toNat)) 0)) + ((m / 100) % 10)) (r_D_isToUndo N m)) ⟨by omega, by omega⟩ ⟨by omega, by omega⟩) ?_
      rintro _ _ _ ⟨rfl, rfl, rfl⟩
      refine mm_go 0 (Y := (117, [(7, .inl (r_V_attempt N (((m % 10) / 2).toNat) ((4 * (N (19 + ((m / 1000).toNat)) 0)) + ((m / 100) % 10)) (r_D_isToUndo N m))), (6, .inl ((4 * (N (19 + ((m / 1000).toNat)) 0)) + ((m / 100) % 10))), (5, .inl (N (9 + 3 * (((m % 10) / 2).toNat)) ((r_D_nameOf N m).toNat))), (4, .inl (r_D_nameOf N m)), (3, .inr (some (7 + 3 * ((m % 10) / 2).toNat))), (2, .inl ((m % 10) / 2)), (0, .inr (some 0)), (1, .inl m)], [.inl (m + (10 * (r_V_attempt N (((m % 10) / 2).toNat) ((4 * (N (19 + ((m / 1000).toNat)) 0)) + ((m / 100) % 10)) (r_D_isToUndo N m)))), .inr (some 14)], shW, (mm_f2 (mm_f2 (n_V_attempt N (((m % 10) / 2).toNat) ((4 * (N (19 + ((m / 1000).toNat)) 0)) + ((m / 100) % 10)) (r_D_isToUndo N m)) (9 + 3 * (((m % 10) / 2).toNat)) ((r_D_nameOf N m).toNat) (r_V_attempt N (((m % 10) / 2).toNat) ((4 * (N (19 + ((m / 1000).toNat)) 0)) + ((m / 100) % 10)) (r_D_isToUndo N m))) (7 + 3 * (((m % 10) / 2).toNat)) 2 (((mm_f2 (n_V_attempt N (((m % 10) / 2).toNat) ((4 * (N (19 + ((m / 1000).toNat)) 0)) + ((m / 100) % 10)) (r_D_isToUndo N m)) (9 + 3 * (((m % 10) / 2).toNat)) ((r_D_nameOf N m).toNat) (r_V_attempt N (((m % 10) / 2).toNat) ((4 * (N (19 + ((m / 1000).toNat)) 0)) + ((m / 100) % 10)) (r_D_isToUndo N m))) (7 + 3 * (((m % 10) / 2).toNat)) 2) + 1)), 0, 0)) rfl ?_
      have hl : (mm_f2 (mm_f2 (n_V_attempt N (((m % 10) / 2).toNat) ((4 * (N (19 + ((m / 1000).toNat)) 0)) + ((m / 100) % 10)) (r_D_isToUndo N m)) (9 + 3 * (((m % 10) / 2).toNat)) ((r_D_nameOf N m).toNat) (r_V_attempt N (((m % 10) / 2).toNat) ((4 * (N (19 + ((m / 1000).toNat)) 0)) + ((m / 100) % 10)) (r_D_isToUndo N m))) (7 + 3 * (((m % 10) / 2).toNat)) 2 (((mm_f2 (n_V_attempt N (((m % 10) / 2).toNat) ((4 * (N (19 + ((m / 1000).toNat)) 0)) + ((m / 100) % 10)) (r_D_isToUndo N m)) (9 + 3 * (((m % 10) / 2).toNat)) ((r_D_nameOf N m).toNat) (r_V_attempt N (((m % 10) / 2).toNat) ((4 * (N (19 + ((m / 1000).toNat)) 0)) + ((m / 100) % 10)) (r_D_isToUndo N m))) (7 + 3 * (((m % 10) / 2).toNat)) 2) + 1)) 14 1 = N 14 1 := by rw [mm_f2_row (by omega), mm_f2_row (by omega), at_row (by omega)]
      refine mm_ca rfl ⟨⟨_, rfl⟩, rfl, Nat.le_of_ble_eq_true rfl, Nat.le_of_ble_eq_true rfl⟩ (d' := 1) (by decide) (c_L_put (mm_f2 (mm_f2 (n_V_attempt N (((m % 10) / 2).toNat) ((4 * (N (19 + ((m / 1000).toNat)) 0)) + ((m / 100) % 10)) (r_D_isToUndo N m)) (9 + 3 * (((m % 10) / 2).toNat)) ((r_D_nameOf N m).toNat) (r_V_attempt N (((m % 10) / 2).toNat) ((4 * (N (19 + ((m / 1000).toNat)) 0)) + ((m / 100) % 10)) (r_D_isToUndo N m))) (7 + 3 * (((m % 10) / 2).toNat)) 2 (((mm_f2 (n_V_attempt N (((m % 10) / 2).toNat) ((4 * (N (19 + ((m / 1000).toNat)) 0)) + ((m / 100) % 10)) (r_D_isToUndo N m)) (9 + 3 * (((m % 10) / 2).toNat)) ((r_D_nameOf N m).toNat) (r_V_attempt N (((m % 10) / 2).toNat) ((4 * (N (19 + ((m / 1000).toNat)) 0)) + ((m / 100) % 10)) (r_D_isToUndo N m))) (7 + 3 * (((m % 10) / 2).toNat)) 2) + 1)) (m + (10 * (r_V_attempt N (((m % 10) / 2).toNat) ((4 * (N (19 + ((m / 1000).toNat)) 0)) + ((m / 100) % 10)) (r_D_isToUndo N m)))) (by rw [hl]; exact hc)) ?_
      rintro _ _ _ ⟨rfl, rfl, rfl⟩
      refine mm_go 0 (Y := (120, [(7, .inl (r_V_attempt N (((m % 10) / 2).toNat) ((4 * (N (19 + ((m / 1000).toNat)) 0)) + ((m / 100) % 10)) (r_D_isToUndo N m))), (6, .inl ((4 * (N (19 + ((m / 1000).toNat)) 0)) + ((m / 100) % 10))), (5, .inl (N (9 + 3 * (((m % 10) / 2).toNat)) ((r_D_nameOf N m).toNat))), (4, .inl (r_D_nameOf N m)), (3, .inr (some (7 + 3 * ((m % 10) / 2).toNat))), (2, .inl ((m % 10) / 2)), (0, .inr (some 0)), (1, .inl m)], [], shW, (n_L_put (mm_f2 (mm_f2 (n_V_attempt N (((m % 10) / 2).toNat) ((4 * (N (19 + ((m / 1000).toNat)) 0)) + ((m / 100) % 10)) (r_D_isToUndo N m)) (9 + 3 * (((m % 10) / 2).toNat)) ((r_D_nameOf N m).toNat) (r_V_attempt N (((m % 10) / 2).toNat) ((4 * (N (19 + ((m / 1000).toNat)) 0)) + ((m / 100) % 10)) (r_D_isToUndo N m))) (7 + 3 * (((m % 10) / 2).toNat)) 2 (((mm_f2 (n_V_attempt N (((m % 10) / 2).toNat) ((4 * (N (19 + ((m / 1000).toNat)) 0)) + ((m / 100) % 10)) (r_D_isToUndo N m)) (9 + 3 * (((m % 10) / 2).toNat)) ((r_D_nameOf N m).toNat) (r_V_attempt N (((m % 10) / 2).toNat) ((4 * (N (19 + ((m / 1000).toNat)) 0)) + ((m / 100) % 10)) (r_D_isToUndo N m))) (7 + 3 * (((m % 10) / 2).toNat)) 2) + 1)) (m + (10 * (r_V_attempt N (((m % 10) / 2).toNat) ((4 * (N (19 + ((m / 1000).toNat)) 0)) + ((m / 100) % 10)) (r_D_isToUndo N m))))), 0, 0)) rfl ?_
      refine mm_go 3 (Y := (if (r_V_attempt N (((m % 10) / 2).toNat) ((4 * (N (19 + ((m / 1000).toNat)) 0)) + ((m / 100) % 10)) (r_D_isToUndo N m)) = 2 then 126 else 130, [(7, .inl (r_V_attempt N (((m % 10) / 2).toNat) ((4 * (N (19 + ((m / 1000).toNat)) 0)) + ((m / 100) % 10)) (r_D_isToUndo N m))), (6, .inl ((4 * (N (19 + ((m / 1000).toNat)) 0)) + ((m / 100) % 10))), (5, .inl (N (9 + 3 * (((m % 10) / 2).toNat)) ((r_D_nameOf N m).toNat))), (4, .inl (r_D_nameOf N m)), (3, .inr (some (7 + 3 * ((m % 10) / 2).toNat))), (2, .inl ((m % 10) / 2)), (0, .inr (some 0)), (1, .inl m)], [], shW, (n_L_put (mm_f2 (mm_f2 (n_V_attempt N (((m % 10) / 2).toNat) ((4 * (N (19 + ((m / 1000).toNat)) 0)) + ((m / 100) % 10)) (r_D_isToUndo N m)) (9 + 3 * (((m % 10) / 2).toNat)) ((r_D_nameOf N m).toNat) (r_V_attempt N (((m % 10) / 2).toNat) ((4 * (N (19 + ((m / 1000).toNat)) 0)) + ((m / 100) % 10)) (r_D_isToUndo N m))) (7 + 3 * (((m % 10) / 2).toNat)) 2 (((mm_f2 (n_V_attempt N (((m % 10) / 2).toNat) ((4 * (N (19 + ((m / 1000).toNat)) 0)) + ((m / 100) % 10)) (r_D_isToUndo N m)) (9 + 3 * (((m % 10) / 2).toNat)) ((r_D_nameOf N m).toNat) (r_V_attempt N (((m % 10) / 2).toNat) ((4 * (N (19 + ((m / 1000).toNat)) 0)) + ((m / 100) % 10)) (r_D_isToUndo N m))) (7 + 3 * (((m % 10) / 2).toNat)) 2) + 1)) (m + (10 * (r_V_attempt N (((m % 10) / 2).toNat) ((4 * (N (19 + ((m / 1000).toNat)) 0)) + ((m / 100) % 10)) (r_D_isToUndo N m))))), 0, 0)) rfl ?_
      refine mm_if (fun h3 => ?_) (fun h3 => ?_)
      · skip
        refine mm_go 2 (Y := (131, [(7, .inl (r_V_attempt N (((m % 10) / 2).toNat) ((4 * (N (19 + ((m / 1000).toNat)) 0)) + ((m / 100) % 10)) (r_D_isToUndo N m))), (6, .inl ((4 * (N (19 + ((m / 1000).toNat)) 0)) + ((m / 100) % 10))), (5, .inl (N (9 + 3 * (((m % 10) / 2).toNat)) ((r_D_nameOf N m).toNat))), (4, .inl (r_D_nameOf N m)), (3, .inr (some (7 + 3 * ((m % 10) / 2).toNat))), (2, .inl ((m % 10) / 2)), (0, .inr (some 0)), (1, .inl m)], [.inl 1], shW, (n_L_put (mm_f2 (mm_f2 (n_V_attempt N (((m % 10) / 2).toNat) ((4 * (N (19 + ((m / 1000).toNat)) 0)) + ((m / 100) % 10)) (r_D_isToUndo N m)) (9 + 3 * (((m % 10) / 2).toNat)) ((r_D_nameOf N m).toNat) (r_V_attempt N (((m % 10) / 2).toNat) ((4 * (N (19 + ((m / 1000).toNat)) 0)) + ((m / 100) % 10)) (r_D_isToUndo N m))) (7 + 3 * (((m % 10) / 2).toNat)) 2 (((mm_f2 (n_V_attempt N (((m % 10) / 2).toNat) ((4 * (N (19 + ((m / 1000).toNat)) 0)) + ((m / 100) % 10)) (r_D_isToUndo N m)) (9 + 3 * (((m % 10) / 2).toNat)) ((r_D_nameOf N m).toNat) (r_V_attempt N (((m % 10) / 2).toNat) ((4 * (N (19 + ((m / 1000).toNat)) 0)) + ((m / 100) % 10)) (r_D_isToUndo N m))) (7 + 3 * (((m % 10) / 2).toNat)) 2) + 1)) (m + (10 * (r_V_attempt N (((m % 10) / 2).toNat) ((4 * (N (19 + ((m / 1000).toNat)) 0)) + ((m / 100) % 10)) (r_D_isToUndo N m))))), 0, 0)) rfl ?_
        exact mm_rt rfl ⟨rfl, Or.inl rfl⟩ ⟨by unfold r_D_takeRequest; rw [if_neg h1, if_pos h2, if_pos h3], rfl, by unfold n_D_takeRequest; rw [if_neg h1, if_pos h2]⟩
      · skip
        refine mm_go 1 (Y := (131, [(7, .inl (r_V_attempt N (((m % 10) / 2).toNat) ((4 * (N (19 + ((m / 1000).toNat)) 0)) + ((m / 100) % 10)) (r_D_isToUndo N m))), (6, .inl ((4 * (N (19 + ((m / 1000).toNat)) 0)) + ((m / 100) % 10))), (5, .inl (N (9 + 3 * (((m % 10) / 2).toNat)) ((r_D_nameOf N m).toNat))), (4, .inl (r_D_nameOf N m)), (3, .inr (some (7 + 3 * ((m % 10) / 2).toNat))), (2, .inl ((m % 10) / 2)), (0, .inr (some 0)), (1, .inl m)], [.inl 2], shW, (n_L_put (mm_f2 (mm_f2 (n_V_attempt N (((m % 10) / 2).toNat) ((4 * (N (19 + ((m / 1000).toNat)) 0)) + ((m / 100) % 10)) (r_D_isToUndo N m)) (9 + 3 * (((m % 10) / 2).toNat)) ((r_D_nameOf N m).toNat) (r_V_attempt N (((m % 10) / 2).toNat) ((4 * (N (19 + ((m / 1000).toNat)) 0)) + ((m / 100) % 10)) (r_D_isToUndo N m))) (7 + 3 * (((m % 10) / 2).toNat)) 2 (((mm_f2 (n_V_attempt N (((m % 10) / 2).toNat) ((4 * (N (19 + ((m / 1000).toNat)) 0)) + ((m / 100) % 10)) (r_D_isToUndo N m)) (9 + 3 * (((m % 10) / 2).toNat)) ((r_D_nameOf N m).toNat) (r_V_attempt N (((m % 10) / 2).toNat) ((4 * (N (19 + ((m / 1000).toNat)) 0)) + ((m / 100) % 10)) (r_D_isToUndo N m))) (7 + 3 * (((m % 10) / 2).toNat)) 2) + 1)) (m + (10 * (r_V_attempt N (((m % 10) / 2).toNat) ((4 * (N (19 + ((m / 1000).toNat)) 0)) + ((m / 100) % 10)) (r_D_isToUndo N m))))), 0, 0)) rfl ?_
        exact mm_rt rfl ⟨rfl, Or.inl rfl⟩ ⟨by unfold r_D_takeRequest; rw [if_neg h1, if_pos h2, if_neg h3], rfl, by unfold n_D_takeRequest; rw [if_neg h1, if_pos h2]⟩
    · skip
      refine mm_go 4 (Y := (50, [(5, .inl (N (9 + 3 * (((m % 10) / 2).toNat)) ((r_D_nameOf N m).toNat))), (4, .inl (r_D_nameOf N m)), (3, .inr (some (7 + 3 * ((m % 10) / 2).toNat))), (2, .inl ((m % 10) / 2)), (0, .inr (some 0)), (1, .inl m)], [.inl (N (9 + 3 * (((m % 10) / 2).toNat)) ((r_D_nameOf N m).toNat)), .inl m, .inr (some 14)], shW, N, 0, 0)) rfl ?_
      refine mm_ca rfl ⟨Nat.le_of_ble_eq_true rfl, rfl, Nat.le_of_ble_eq_true rfl, Nat.le_of_ble_eq_true rfl⟩ (d' := 1) (by decide) (c_D_replyTo N m (N (9 + 3 * (((m % 10) / 2).toNat)) ((r_D_nameOf N m).toNat)) ⟨by omega, by omega⟩ ⟨by omega, by omega⟩) ?_
      rintro _ _ _ ⟨rfl, rfl, rfl⟩
      refine mm_go 0 (Y := (53, [(5, .inl (N (9 + 3 * (((m % 10) / 2).toNat)) ((r_D_nameOf N m).toNat))), (4, .inl (r_D_nameOf N m)), (3, .inr (some (7 + 3 * ((m % 10) / 2).toNat))), (2, .inl ((m % 10) / 2)), (0, .inr (some 0)), (1, .inl m)], [.inl (m + (10 * (N (9 + 3 * (((m % 10) / 2).toNat)) ((r_D_nameOf N m).toNat)))), .inr (some 14)], shW, N, 0, 0)) rfl ?_
      refine mm_ca rfl ⟨⟨_, rfl⟩, rfl, Nat.le_of_ble_eq_true rfl, Nat.le_of_ble_eq_true rfl⟩ (d' := 1) (by decide) (c_L_put N (m + (10 * (N (9 + 3 * (((m % 10) / 2).toNat)) ((r_D_nameOf N m).toNat)))) ⟨by first | omega | (simp [mm_f2_at, mm_f0_at]; omega), by first | omega | (simp [mm_f2_at, mm_f0_at]; omega)⟩) ?_
      rintro _ _ _ ⟨rfl, rfl, rfl⟩
      refine mm_go 0 (Y := (56, [(5, .inl (N (9 + 3 * (((m % 10) / 2).toNat)) ((r_D_nameOf N m).toNat))), (4, .inl (r_D_nameOf N m)), (3, .inr (some (7 + 3 * ((m % 10) / 2).toNat))), (2, .inl ((m % 10) / 2)), (0, .inr (some 0)), (1, .inl m)], [], shW, (n_L_put N (m + (10 * (N (9 + 3 * (((m % 10) / 2).toNat)) ((r_D_nameOf N m).toNat))))), 0, 0)) rfl ?_
      refine mm_go 1 (Y := (57, [(5, .inl (N (9 + 3 * (((m % 10) / 2).toNat)) ((r_D_nameOf N m).toNat))), (4, .inl (r_D_nameOf N m)), (3, .inr (some (7 + 3 * ((m % 10) / 2).toNat))), (2, .inl ((m % 10) / 2)), (0, .inr (some 0)), (1, .inl m)], [.inl 3], shW, (n_L_put N (m + (10 * (N (9 + 3 * (((m % 10) / 2).toNat)) ((r_D_nameOf N m).toNat))))), 0, 0)) rfl ?_
      exact mm_rt rfl ⟨rfl, Or.inl rfl⟩ ⟨by unfold r_D_takeRequest; rw [if_neg h1, if_neg h2], rfl, by unfold n_D_takeRequest; rw [if_neg h1, if_neg h2]⟩
def r_D_takeReply (N : mm_N) (m : Int) : Int := if (N 13 2) = 0 then 6 else (if (r_D_isWaiting N (m / 1000)) = 0 then 5 else (if (m - (10 * ((m / 10) % 10))) = (r_D_nextRequest N (m / 1000)) then 4 else 5))
def n_D_takeReply (N : mm_N) (m : Int) : mm_N := if (N 13 2) = 0 then N else (if (r_D_isWaiting N (m / 1000)) = 0 then N else (if (m - (10 * ((m / 10) % 10))) = (r_D_nextRequest N (m / 1000)) then (n_D_readRecord (mm_f2 (mm_f2 (mm_f2 (mm_f2 N 17 ((((N 16 1))).toNat) (r_D_recordFor N m)) 17 (((((N 16 1))) + 1).toNat) (m / 1000)) 17 (((((N 16 1))) + 2).toNat) ((m / 100) % 10)) 16 1 ((((N 16 1))) + 3)) (((((((N 16 1))) + 3)) / 3) - 1)) else N))
theorem c_D_takeReply {L : Nat} {xs : Nat → Int} (N : mm_N) (m : Int) (hq : tP N m) : mm_Cl mm_pf mm_bd L xs mm_pr 4 54 [.inr (some 0), .inl m] shW N (fun r sh N' => r = some (.inl (r_D_takeReply N m)) ∧ sh = shW ∧ n_D_takeReply N m = N') := by
  refine mm_start p_D_takeReply ?_
  obtain ⟨hm, hs, hS, hK, hc, hw, hu, hr⟩ := hq
  refine mm_go 3 (Y := (5, [(0, .inr (some 0)), (1, .inl m)], [.inl 2, .inr (some 13)], shW, N, 0, 0)) rfl ?_
  refine mm_cd (Y := (6, [(0, .inr (some 0)), (1, .inl m)], [.inl (N 13 2)], shW, N, 0, 0)) rfl ⟨by omega, by omega⟩ ?_
  refine mm_go 1 (Y := (if (N 13 2) = 0 then 9 else 12, [(0, .inr (some 0)), (1, .inl m)], [], shW, N, 0, 0)) rfl ?_
  refine mm_if (fun h1 => ?_) (fun h1 => ?_)
  · skip
    refine mm_go 1 (Y := (11, [(0, .inr (some 0)), (1, .inl m)], [.inl 6], shW, N, 0, 0)) rfl ?_
    exact mm_rt rfl ⟨rfl, Or.inl rfl⟩ ⟨by unfold r_D_takeReply; rw [if_pos h1], rfl, by unfold n_D_takeReply; rw [if_pos h1]⟩
  · skip
    refine mm_go 1 (Y := (13, [(0, .inr (some 0)), (1, .inl m)], [.inl m], shW, N, 0, 0)) rfl ?_
    refine mm_ca rfl ⟨Nat.le_of_ble_eq_true rfl, rfl, Nat.le_of_ble_eq_true rfl, Nat.le_of_ble_eq_true rfl⟩ (d' := 1) (by decide) (c_D_sagaOf N m ⟨by omega, by omega⟩) ?_
    rintro _ _ _ ⟨rfl, rfl, rfl⟩
    refine mm_go 0 (Y := (16, [(0, .inr (some 0)), (1, .inl m)], [.inl (m / 1000)], shW, N, 0, 0)) rfl ?_
    refine mm_go 3 (Y := (19, [(2, .inl (m / 1000)), (0, .inr (some 0)), (1, .inl m)], [.inl (m / 1000), .inr (some 0)], shW, N, 0, 0)) rfl ?_
    refine mm_ca rfl ⟨⟨_, rfl⟩, rfl, Nat.le_of_ble_eq_true rfl, Nat.le_of_ble_eq_true rfl⟩ (d' := 3) (by decide) (c_D_isWaiting N (m / 1000) ⟨by omega, by omega⟩ (by assumption)) ?_
    rintro _ _ _ ⟨rfl, rfl, rfl⟩
    refine mm_go 0 (Y := (22, [(2, .inl (m / 1000)), (0, .inr (some 0)), (1, .inl m)], [.inl (r_D_isWaiting N (m / 1000))], shW, N, 0, 0)) rfl ?_
    refine mm_go 1 (Y := (if (r_D_isWaiting N (m / 1000)) = 0 then 37 else 25, [(2, .inl (m / 1000)), (0, .inr (some 0)), (1, .inl m)], [], shW, N, 0, 0)) rfl ?_
    refine mm_if (fun h2 => ?_) (fun h2 => ?_)
    · skip
      refine mm_go 1 (Y := (38, [(2, .inl (m / 1000)), (0, .inr (some 0)), (1, .inl m)], [.inl 5], shW, N, 0, 0)) rfl ?_
      exact mm_rt rfl ⟨rfl, Or.inl rfl⟩ ⟨by unfold r_D_takeReply; rw [if_neg h1, if_pos h2], rfl, by unfold n_D_takeReply; rw [if_neg h1, if_pos h2]⟩
    · skip
      have hn := wt_step ⟨by omega, by omega⟩ hK hS h2
      refine mm_go 1 (Y := (26, [(2, .inl (m / 1000)), (0, .inr (some 0)), (1, .inl m)], [.inl m], shW, N, 0, 0)) rfl ?_
      refine mm_ca rfl ⟨Nat.le_of_ble_eq_true rfl, rfl, Nat.le_of_ble_eq_true rfl, Nat.le_of_ble_eq_true rfl⟩ (d' := 2) (by decide) (c_D_requestOf N m ⟨by omega, by omega⟩) ?_
      rintro _ _ _ ⟨rfl, rfl, rfl⟩
      refine mm_go 0 (Y := (29, [(2, .inl (m / 1000)), (0, .inr (some 0)), (1, .inl m)], [.inl (m - (10 * ((m / 10) % 10)))], shW, N, 0, 0)) rfl ?_
      refine mm_go 2 (Y := (31, [(2, .inl (m / 1000)), (0, .inr (some 0)), (1, .inl m)], [.inl (m / 1000), .inr (some 0), .inl (m - (10 * ((m / 10) % 10)))], shW, N, 0, 0)) rfl ?_
      refine mm_ca rfl ⟨⟨_, rfl⟩, rfl, Nat.le_of_ble_eq_true rfl, Nat.le_of_ble_eq_true rfl⟩ (d' := 2) (by decide) (c_D_nextRequest N (m / 1000) ⟨by omega, by omega⟩ (by assumption) (by assumption) (by assumption)) ?_
      rintro _ _ _ ⟨rfl, rfl, rfl⟩
      refine mm_go 0 (Y := (34, [(2, .inl (m / 1000)), (0, .inr (some 0)), (1, .inl m)], [.inl (r_D_nextRequest N (m / 1000)), .inl (m - (10 * ((m / 10) % 10)))], shW, N, 0, 0)) rfl ?_
      refine mm_go 1 (Y := (if (m - (10 * ((m / 10) % 10))) = (r_D_nextRequest N (m / 1000)) then 39 else 37, [(2, .inl (m / 1000)), (0, .inr (some 0)), (1, .inl m)], [], shW, N, 0, 0)) rfl ?_
      refine mm_if (fun h3 => ?_) (fun h3 => ?_)
      · skip
        refine mm_go 2 (Y := (41, [(2, .inl (m / 1000)), (0, .inr (some 0)), (1, .inl m)], [.inl m, .inr (some 0)], shW, N, 0, 0)) rfl ?_
        refine mm_ca rfl ⟨Nat.le_of_ble_eq_true rfl, rfl, Nat.le_of_ble_eq_true rfl, Nat.le_of_ble_eq_true rfl⟩ (d' := 2) (by decide) (c_D_recordFor N m ⟨by omega, by omega⟩) ?_
        rintro _ _ _ ⟨rfl, rfl, rfl⟩
        refine mm_go 0 (Y := (44, [(2, .inl (m / 1000)), (0, .inr (some 0)), (1, .inl m)], [.inl (r_D_recordFor N m), .inr (some 0)], shW, N, 0, 0)) rfl ?_
        refine mm_go 2 (Y := (46, [(2, .inl (m / 1000)), (0, .inr (some 0)), (1, .inl m)], [.inl m, .inl (m / 1000), .inl (r_D_recordFor N m), .inr (some 0)], shW, N, 0, 0)) rfl ?_
        refine mm_ca rfl ⟨Nat.le_of_ble_eq_true rfl, rfl, Nat.le_of_ble_eq_true rfl, Nat.le_of_ble_eq_true rfl⟩ (d' := 1) (by decide) (c_D_stepOf N m ⟨by omega, by omega⟩) ?_
        rintro _ _ _ ⟨rfl, rfl, rfl⟩
        refine mm_go 0 (Y := (49, [(2, .inl (m / 1000)), (0, .inr (some 0)), (1, .inl m)], [.inl ((m / 100) % 10), .inl (m / 1000), .inl (r_D_recordFor N m), .inr (some 0)], shW, N, 0, 0)) rfl ?_
        refine mm_ca rfl ⟨⟨_, rfl⟩, rfl, Nat.le_of_ble_eq_true rfl, Nat.le_of_ble_eq_true rfl⟩ (d' := 3) (by decide) (c_D_writeRecord N (r_D_recordFor N m) (m / 1000) ((m / 100) % 10) hw (hu (by assumption)) (hr (by assumption) (by assumption)) ⟨by omega, by omega⟩ hS hK hc) ?_
        rintro _ _ _ ⟨rfl, rfl, rfl⟩
        refine mm_go 0 (Y := (52, [(2, .inl (m / 1000)), (0, .inr (some 0)), (1, .inl m)], [], shW, (n_D_readRecord (mm_f2 (mm_f2 (mm_f2 (mm_f2 N 17 ((((N 16 1))).toNat) (r_D_recordFor N m)) 17 (((((N 16 1))) + 1).toNat) (m / 1000)) 17 (((((N 16 1))) + 2).toNat) ((m / 100) % 10)) 16 1 ((((N 16 1))) + 3)) (((((((N 16 1))) + 3)) / 3) - 1)), 0, 0)) rfl ?_
        refine mm_go 1 (Y := (53, [(2, .inl (m / 1000)), (0, .inr (some 0)), (1, .inl m)], [.inl 4], shW, (n_D_readRecord (mm_f2 (mm_f2 (mm_f2 (mm_f2 N 17 ((((N 16 1))).toNat) (r_D_recordFor N m)) 17 (((((N 16 1))) + 1).toNat) (m / 1000)) 17 (((((N 16 1))) + 2).toNat) ((m / 100) % 10)) 16 1 ((((N 16 1))) + 3)) (((((((N 16 1))) + 3)) / 3) - 1)), 0, 0)) rfl ?_
        exact mm_rt rfl ⟨rfl, Or.inl rfl⟩ ⟨by unfold r_D_takeReply; rw [if_neg h1, if_neg h2, if_pos h3], rfl, by unfold n_D_takeReply; rw [if_neg h1, if_neg h2, if_pos h3]⟩
      · skip
        refine mm_go 1 (Y := (38, [(2, .inl (m / 1000)), (0, .inr (some 0)), (1, .inl m)], [.inl 5], shW, N, 0, 0)) rfl ?_
        exact mm_rt rfl ⟨rfl, Or.inl rfl⟩ ⟨by unfold r_D_takeReply; rw [if_neg h1, if_neg h2, if_neg h3], rfl, by unfold n_D_takeReply; rw [if_neg h1, if_neg h2, if_neg h3]⟩
def r_D_deliver (N : mm_N) (k : Int) : Int := if (r_D_isBelow N k (N 14 1)) = 0 then 0 else (if (((N 15 (k.toNat)) / 10) % 10) = 0 then (r_D_takeRequest (mm_f0 (mm_f2 N 14 1 (((N 14 1)) - 1)) 15 (mm_cp (N 15) (N 15) (k + 1).toNat k.toNat ((((N 14 1)) - 1) - k).toNat)) (N 15 (k.toNat))) else (r_D_takeReply (mm_f0 (mm_f2 N 14 1 (((N 14 1)) - 1)) 15 (mm_cp (N 15) (N 15) (k + 1).toNat k.toNat ((((N 14 1)) - 1) - k).toNat)) (N 15 (k.toNat))))
def n_D_deliver (N : mm_N) (k : Int) : mm_N := if (r_D_isBelow N k (N 14 1)) = 0 then N else (if (((N 15 (k.toNat)) / 10) % 10) = 0 then (n_D_takeRequest (mm_f0 (mm_f2 N 14 1 (((N 14 1)) - 1)) 15 (mm_cp (N 15) (N 15) (k + 1).toNat k.toNat ((((N 14 1)) - 1) - k).toNat)) (N 15 (k.toNat))) else (n_D_takeReply (mm_f0 (mm_f2 N 14 1 (((N 14 1)) - 1)) 15 (mm_cp (N 15) (N 15) (k + 1).toNat k.toNat ((((N 14 1)) - 1) - k).toNat)) (N 15 (k.toNat))))
theorem c_D_deliver {L : Nat} {xs : Nat → Int} (N : mm_N) (k : Int) (hc : 0 ≤ N 14 1 ∧ N 14 1 < 25) (hq : 0 ≤ k ∧ k < N 14 1 → (0 ≤ N 15 k.toNat ∧ N 15 k.toNat < 20000) ∧ tQ (mm_f0 (mm_f2 N 14 1 ((N 14 1) - 1)) 15 (mm_cp (N 15) (N 15) (k + 1).toNat k.toNat (((N 14 1) - 1) - k).toNat)) (N 15 k.toNat) ∧ tP (mm_f0 (mm_f2 N 14 1 ((N 14 1) - 1)) 15 (mm_cp (N 15) (N 15) (k + 1).toNat k.toNat (((N 14 1) - 1) - k).toNat)) (N 15 k.toNat)) : mm_Cl mm_pf mm_bd L xs mm_pr 5 37 [.inr (some 0), .inl k] shW N (fun r sh N' => r = some (.inl (r_D_deliver N k)) ∧ sh = shW ∧ n_D_deliver N k = N') := by
  refine mm_start p_D_deliver ?_
  refine mm_go 3 (Y := (5, [(0, .inr (some 0)), (1, .inl k)], [.inr (some 14), .inl k], shW, N, 0, 0)) rfl ?_
  refine mm_ca rfl ⟨⟨_, rfl⟩, rfl, Nat.le_of_ble_eq_true rfl, Nat.le_of_ble_eq_true rfl⟩ (d' := 1) (by decide) (c_L_size N) ?_
  rintro _ _ _ ⟨rfl, rfl, rfl⟩
  refine mm_go 0 (Y := (8, [(0, .inr (some 0)), (1, .inl k)], [.inl (N 14 1), .inl k], shW, N, 0, 0)) rfl ?_
  refine mm_ca rfl ⟨Nat.le_of_ble_eq_true rfl, rfl, Nat.le_of_ble_eq_true rfl, Nat.le_of_ble_eq_true rfl⟩ (d' := 1) (by decide) (c_D_isBelow N k (N 14 1)) ?_
  rintro _ _ _ ⟨rfl, rfl, rfl⟩
  refine mm_go 0 (Y := (11, [(0, .inr (some 0)), (1, .inl k)], [.inl (r_D_isBelow N k (N 14 1))], shW, N, 0, 0)) rfl ?_
  refine mm_go 1 (Y := (if (r_D_isBelow N k (N 14 1)) = 0 then 14 else 16, [(0, .inr (some 0)), (1, .inl k)], [], shW, N, 0, 0)) rfl ?_
  refine mm_if (fun h1 => ?_) (fun h1 => ?_)
  · skip
    refine mm_go 1 (Y := (15, [(0, .inr (some 0)), (1, .inl k)], [.inl 0], shW, N, 0, 0)) rfl ?_
    exact mm_rt rfl ⟨rfl, Or.inl rfl⟩ ⟨by unfold r_D_deliver; rw [if_pos h1], rfl, by unfold n_D_deliver; rw [if_pos h1]⟩
  · skip
    have bh1 := b_isBelow h1
    obtain ⟨q1, q2, q3⟩ := hq bh1
    refine mm_go 3 (Y := (21, [(0, .inr (some 0)), (1, .inl k)], [.inl k, .inr (some 14)], shW, N, 0, 0)) rfl ?_
    refine mm_ca rfl ⟨⟨_, rfl⟩, rfl, Nat.le_of_ble_eq_true rfl, Nat.le_of_ble_eq_true rfl⟩ (d' := 1) (by decide) (c_L_take N k ⟨by first | omega | (simp [mm_f2_at, mm_f0_at]; omega), by first | omega | (simp [mm_f2_at, mm_f0_at]; omega)⟩ (by omega)) ?_
    rintro _ _ _ ⟨rfl, rfl, rfl⟩
    refine mm_go 0 (Y := (24, [(0, .inr (some 0)), (1, .inl k)], [.inl (N 15 (k.toNat))], shW, (mm_f0 (mm_f2 N 14 1 (((N 14 1)) - 1)) 15 (mm_cp (N 15) (N 15) (k + 1).toNat k.toNat ((((N 14 1)) - 1) - k).toNat)), 0, 0)) rfl ?_
    refine mm_go 2 (Y := (26, [(2, .inl (N 15 (k.toNat))), (0, .inr (some 0)), (1, .inl k)], [.inl (N 15 (k.toNat))], shW, (mm_f0 (mm_f2 N 14 1 (((N 14 1)) - 1)) 15 (mm_cp (N 15) (N 15) (k + 1).toNat k.toNat ((((N 14 1)) - 1) - k).toNat)), 0, 0)) rfl ?_
    refine mm_ca rfl ⟨Nat.le_of_ble_eq_true rfl, rfl, Nat.le_of_ble_eq_true rfl, Nat.le_of_ble_eq_true rfl⟩ (d' := 1) (by decide) (c_D_answerIn (mm_f0 (mm_f2 N 14 1 (((N 14 1)) - 1)) 15 (mm_cp (N 15) (N 15) (k + 1).toNat k.toNat ((((N 14 1)) - 1) - k).toNat)) (N 15 (k.toNat)) ⟨by omega, by omega⟩) ?_
    rintro _ _ _ ⟨rfl, rfl, rfl⟩
    refine mm_go 0 (Y := (29, [(2, .inl (N 15 (k.toNat))), (0, .inr (some 0)), (1, .inl k)], [.inl (((N 15 (k.toNat)) / 10) % 10)], shW, (mm_f0 (mm_f2 N 14 1 (((N 14 1)) - 1)) 15 (mm_cp (N 15) (N 15) (k + 1).toNat k.toNat ((((N 14 1)) - 1) - k).toNat)), 0, 0)) rfl ?_
    refine mm_go 1 (Y := (if (((N 15 (k.toNat)) / 10) % 10) = 0 then 32 else 38, [(2, .inl (N 15 (k.toNat))), (0, .inr (some 0)), (1, .inl k)], [], shW, (mm_f0 (mm_f2 N 14 1 (((N 14 1)) - 1)) 15 (mm_cp (N 15) (N 15) (k + 1).toNat k.toNat ((((N 14 1)) - 1) - k).toNat)), 0, 0)) rfl ?_
    refine mm_if (fun h2 => ?_) (fun h2 => ?_)
    · skip
      refine mm_go 2 (Y := (34, [(2, .inl (N 15 (k.toNat))), (0, .inr (some 0)), (1, .inl k)], [.inl (N 15 (k.toNat)), .inr (some 0)], shW, (mm_f0 (mm_f2 N 14 1 (((N 14 1)) - 1)) 15 (mm_cp (N 15) (N 15) (k + 1).toNat k.toNat ((((N 14 1)) - 1) - k).toNat)), 0, 0)) rfl ?_
      refine mm_ca rfl ⟨⟨_, rfl⟩, rfl, Nat.le_of_ble_eq_true rfl, Nat.le_of_ble_eq_true rfl⟩ (d' := 3) (by decide) (c_D_takeRequest (mm_f0 (mm_f2 N 14 1 (((N 14 1)) - 1)) 15 (mm_cp (N 15) (N 15) (k + 1).toNat k.toNat ((((N 14 1)) - 1) - k).toNat)) (N 15 (k.toNat)) (by assumption)) ?_
      rintro _ _ _ ⟨rfl, rfl, rfl⟩
      refine mm_go 0 (Y := (37, [(2, .inl (N 15 (k.toNat))), (0, .inr (some 0)), (1, .inl k)], [.inl (r_D_takeRequest (mm_f0 (mm_f2 N 14 1 (((N 14 1)) - 1)) 15 (mm_cp (N 15) (N 15) (k + 1).toNat k.toNat ((((N 14 1)) - 1) - k).toNat)) (N 15 (k.toNat)))], shW, (n_D_takeRequest (mm_f0 (mm_f2 N 14 1 (((N 14 1)) - 1)) 15 (mm_cp (N 15) (N 15) (k + 1).toNat k.toNat ((((N 14 1)) - 1) - k).toNat)) (N 15 (k.toNat))), 0, 0)) rfl ?_
      exact mm_rt rfl ⟨rfl, Or.inl rfl⟩ ⟨by unfold r_D_deliver; rw [if_neg h1, if_pos h2], rfl, by unfold n_D_deliver; rw [if_neg h1, if_pos h2]⟩
    · skip
      refine mm_go 2 (Y := (40, [(2, .inl (N 15 (k.toNat))), (0, .inr (some 0)), (1, .inl k)], [.inl (N 15 (k.toNat)), .inr (some 0)], shW, (mm_f0 (mm_f2 N 14 1 (((N 14 1)) - 1)) 15 (mm_cp (N 15) (N 15) (k + 1).toNat k.toNat ((((N 14 1)) - 1) - k).toNat)), 0, 0)) rfl ?_
      refine mm_ca rfl ⟨⟨_, rfl⟩, rfl, Nat.le_of_ble_eq_true rfl, Nat.le_of_ble_eq_true rfl⟩ (d' := 4) (by decide) (c_D_takeReply (mm_f0 (mm_f2 N 14 1 (((N 14 1)) - 1)) 15 (mm_cp (N 15) (N 15) (k + 1).toNat k.toNat ((((N 14 1)) - 1) - k).toNat)) (N 15 (k.toNat)) (by assumption)) ?_
      rintro _ _ _ ⟨rfl, rfl, rfl⟩
      refine mm_go 0 (Y := (43, [(2, .inl (N 15 (k.toNat))), (0, .inr (some 0)), (1, .inl k)], [.inl (r_D_takeReply (mm_f0 (mm_f2 N 14 1 (((N 14 1)) - 1)) 15 (mm_cp (N 15) (N 15) (k + 1).toNat k.toNat ((((N 14 1)) - 1) - k).toNat)) (N 15 (k.toNat)))], shW, (n_D_takeReply (mm_f0 (mm_f2 N 14 1 (((N 14 1)) - 1)) 15 (mm_cp (N 15) (N 15) (k + 1).toNat k.toNat ((((N 14 1)) - 1) - k).toNat)) (N 15 (k.toNat))), 0, 0)) rfl ?_
      exact mm_rt rfl ⟨rfl, Or.inl rfl⟩ ⟨by unfold r_D_deliver; rw [if_neg h1, if_neg h2], rfl, by unfold n_D_deliver; rw [if_neg h1, if_neg h2]⟩
def r_D_lose (N : mm_N) (k : Int) : Int := if (r_D_isBelow N k (N 14 1)) = 0 then 0 else 1
def n_D_lose (N : mm_N) (k : Int) : mm_N := if (r_D_isBelow N k (N 14 1)) = 0 then N else (mm_f0 (mm_f2 N 14 1 (((N 14 1)) - 1)) 15 (mm_cp (N 15) (N 15) (k + 1).toNat k.toNat ((((N 14 1)) - 1) - k).toNat))
theorem c_D_lose {L : Nat} {xs : Nat → Int} (N : mm_N) (k : Int) (hc : 0 ≤ N 14 1 ∧ N 14 1 < 25) : mm_Cl mm_pf mm_bd L xs mm_pr 2 57 [.inr (some 0), .inl k] shW N (fun r sh N' => r = some (.inl (r_D_lose N k)) ∧ sh = shW ∧ n_D_lose N k = N') := by
  refine mm_start p_D_lose ?_
  refine mm_go 3 (Y := (5, [(0, .inr (some 0)), (1, .inl k)], [.inr (some 14), .inl k], shW, N, 0, 0)) rfl ?_
  refine mm_ca rfl ⟨⟨_, rfl⟩, rfl, Nat.le_of_ble_eq_true rfl, Nat.le_of_ble_eq_true rfl⟩ (d' := 1) (by decide) (c_L_size N) ?_
  rintro _ _ _ ⟨rfl, rfl, rfl⟩
  refine mm_go 0 (Y := (8, [(0, .inr (some 0)), (1, .inl k)], [.inl (N 14 1), .inl k], shW, N, 0, 0)) rfl ?_
  refine mm_ca rfl ⟨Nat.le_of_ble_eq_true rfl, rfl, Nat.le_of_ble_eq_true rfl, Nat.le_of_ble_eq_true rfl⟩ (d' := 1) (by decide) (c_D_isBelow N k (N 14 1)) ?_
  rintro _ _ _ ⟨rfl, rfl, rfl⟩
  refine mm_go 0 (Y := (11, [(0, .inr (some 0)), (1, .inl k)], [.inl (r_D_isBelow N k (N 14 1))], shW, N, 0, 0)) rfl ?_
  refine mm_go 1 (Y := (if (r_D_isBelow N k (N 14 1)) = 0 then 14 else 16, [(0, .inr (some 0)), (1, .inl k)], [], shW, N, 0, 0)) rfl ?_
  refine mm_if (fun h1 => ?_) (fun h1 => ?_)
  · skip
    refine mm_go 1 (Y := (15, [(0, .inr (some 0)), (1, .inl k)], [.inl 0], shW, N, 0, 0)) rfl ?_
    exact mm_rt rfl ⟨rfl, Or.inr ⟨rfl, (Or.inl rfl)⟩⟩ ⟨by unfold r_D_lose; rw [if_pos h1], rfl, by unfold n_D_lose; rw [if_pos h1]⟩
  · skip
    have bh1 := b_isBelow h1
    refine mm_go 3 (Y := (21, [(0, .inr (some 0)), (1, .inl k)], [.inl k, .inr (some 14)], shW, N, 0, 0)) rfl ?_
    refine mm_ca rfl ⟨⟨_, rfl⟩, rfl, Nat.le_of_ble_eq_true rfl, Nat.le_of_ble_eq_true rfl⟩ (d' := 1) (by decide) (c_L_take N k ⟨by first | omega | (simp [mm_f2_at, mm_f0_at]; omega), by first | omega | (simp [mm_f2_at, mm_f0_at]; omega)⟩ (by omega)) ?_
    rintro _ _ _ ⟨rfl, rfl, rfl⟩
    refine mm_go 0 (Y := (24, [(0, .inr (some 0)), (1, .inl k)], [.inl (N 15 (k.toNat))], shW, (mm_f0 (mm_f2 N 14 1 (((N 14 1)) - 1)) 15 (mm_cp (N 15) (N 15) (k + 1).toNat k.toNat ((((N 14 1)) - 1) - k).toNat)), 0, 0)) rfl ?_
    refine mm_go 2 (Y := (26, [(0, .inr (some 0)), (1, .inl k)], [.inl 1], shW, (mm_f0 (mm_f2 N 14 1 (((N 14 1)) - 1)) 15 (mm_cp (N 15) (N 15) (k + 1).toNat k.toNat ((((N 14 1)) - 1) - k).toNat)), 0, 0)) rfl ?_
    exact mm_rt rfl ⟨rfl, Or.inr ⟨rfl, (Or.inr rfl)⟩⟩ ⟨by unfold r_D_lose; rw [if_neg h1], rfl, by unfold n_D_lose; rw [if_neg h1]⟩
def r_D_repeat (N : mm_N) (k : Int) : Int := if (r_D_isBelow N k (N 14 1)) = 0 then 0 else (if (N 14 1) = 24 then 0 else 1)
def n_D_repeat (N : mm_N) (k : Int) : mm_N := if (r_D_isBelow N k (N 14 1)) = 0 then N else (if (N 14 1) = 24 then N else (n_L_put N (N 15 (k.toNat))))
theorem c_D_repeat {L : Nat} {xs : Nat → Int} (N : mm_N) (k : Int) (hc : 0 ≤ N 14 1 ∧ N 14 1 < 25) : mm_Cl mm_pf mm_bd L xs mm_pr 2 58 [.inr (some 0), .inl k] shW N (fun r sh N' => r = some (.inl (r_D_repeat N k)) ∧ sh = shW ∧ n_D_repeat N k = N') := by
  refine mm_start p_D_repeat ?_
  refine mm_go 3 (Y := (5, [(0, .inr (some 0)), (1, .inl k)], [.inr (some 14), .inl k], shW, N, 0, 0)) rfl ?_
  refine mm_ca rfl ⟨⟨_, rfl⟩, rfl, Nat.le_of_ble_eq_true rfl, Nat.le_of_ble_eq_true rfl⟩ (d' := 1) (by decide) (c_L_size N) ?_
  rintro _ _ _ ⟨rfl, rfl, rfl⟩
  refine mm_go 0 (Y := (8, [(0, .inr (some 0)), (1, .inl k)], [.inl (N 14 1), .inl k], shW, N, 0, 0)) rfl ?_
  refine mm_ca rfl ⟨Nat.le_of_ble_eq_true rfl, rfl, Nat.le_of_ble_eq_true rfl, Nat.le_of_ble_eq_true rfl⟩ (d' := 1) (by decide) (c_D_isBelow N k (N 14 1)) ?_
  rintro _ _ _ ⟨rfl, rfl, rfl⟩
  refine mm_go 0 (Y := (11, [(0, .inr (some 0)), (1, .inl k)], [.inl (r_D_isBelow N k (N 14 1))], shW, N, 0, 0)) rfl ?_
  refine mm_go 1 (Y := (if (r_D_isBelow N k (N 14 1)) = 0 then 26 else 14, [(0, .inr (some 0)), (1, .inl k)], [], shW, N, 0, 0)) rfl ?_
  refine mm_if (fun h1 => ?_) (fun h1 => ?_)
  · skip
    refine mm_go 1 (Y := (27, [(0, .inr (some 0)), (1, .inl k)], [.inl 0], shW, N, 0, 0)) rfl ?_
    exact mm_rt rfl ⟨rfl, Or.inr ⟨rfl, (Or.inl rfl)⟩⟩ ⟨by unfold r_D_repeat; rw [if_pos h1], rfl, by unfold n_D_repeat; rw [if_pos h1]⟩
  · skip
    have bh1 := b_isBelow h1
    refine mm_go 2 (Y := (18, [(0, .inr (some 0)), (1, .inl k)], [.inr (some 14)], shW, N, 0, 0)) rfl ?_
    refine mm_ca rfl ⟨⟨_, rfl⟩, rfl, Nat.le_of_ble_eq_true rfl, Nat.le_of_ble_eq_true rfl⟩ (d' := 1) (by decide) (c_L_size N) ?_
    rintro _ _ _ ⟨rfl, rfl, rfl⟩
    refine mm_go 0 (Y := (21, [(0, .inr (some 0)), (1, .inl k)], [.inl (N 14 1)], shW, N, 0, 0)) rfl ?_
    refine mm_go 2 (Y := (if (N 14 1) = 24 then 26 else 28, [(0, .inr (some 0)), (1, .inl k)], [], shW, N, 0, 0)) rfl ?_
    refine mm_if (fun h2 => ?_) (fun h2 => ?_)
    · skip
      refine mm_go 1 (Y := (27, [(0, .inr (some 0)), (1, .inl k)], [.inl 0], shW, N, 0, 0)) rfl ?_
      exact mm_rt rfl ⟨rfl, Or.inr ⟨rfl, (Or.inl rfl)⟩⟩ ⟨by unfold r_D_repeat; rw [if_neg h1, if_pos h2], rfl, by unfold n_D_repeat; rw [if_neg h1, if_pos h2]⟩
    · skip
      refine mm_go 5 (Y := (37, [(0, .inr (some 0)), (1, .inl k)], [.inl k, .inr (some 14), .inr (some 14)], shW, N, 0, 0)) rfl ?_
      refine mm_ca rfl ⟨⟨_, rfl⟩, rfl, Nat.le_of_ble_eq_true rfl, Nat.le_of_ble_eq_true rfl⟩ (d' := 1) (by decide) (c_L_at N k ⟨by omega, by omega⟩) ?_
      rintro _ _ _ ⟨rfl, rfl, rfl⟩
      refine mm_go 0 (Y := (40, [(0, .inr (some 0)), (1, .inl k)], [.inl (N 15 (k.toNat)), .inr (some 14)], shW, N, 0, 0)) rfl ?_
      refine mm_ca rfl ⟨⟨_, rfl⟩, rfl, Nat.le_of_ble_eq_true rfl, Nat.le_of_ble_eq_true rfl⟩ (d' := 1) (by decide) (c_L_put N (N 15 (k.toNat)) ⟨by first | omega | (simp [mm_f2_at, mm_f0_at]; omega), by first | omega | (simp [mm_f2_at, mm_f0_at]; omega)⟩) ?_
      rintro _ _ _ ⟨rfl, rfl, rfl⟩
      refine mm_go 0 (Y := (43, [(0, .inr (some 0)), (1, .inl k)], [], shW, (n_L_put N (N 15 (k.toNat))), 0, 0)) rfl ?_
      refine mm_go 1 (Y := (44, [(0, .inr (some 0)), (1, .inl k)], [.inl 1], shW, (n_L_put N (N 15 (k.toNat))), 0, 0)) rfl ?_
      exact mm_rt rfl ⟨rfl, Or.inr ⟨rfl, (Or.inr rfl)⟩⟩ ⟨by unfold r_D_repeat; rw [if_neg h1, if_neg h2], rfl, by unfold n_D_repeat; rw [if_neg h1, if_neg h2]⟩
def r_D_resend (N : mm_N) (s : Int) : Int := if (N 13 2) = 0 then 0 else (if (r_D_isBelow N s (N 0 6)) = 0 then 0 else (r_D_sendIfWaiting N s))
def n_D_resend (N : mm_N) (s : Int) : mm_N := if (N 13 2) = 0 then N else (if (r_D_isBelow N s (N 0 6)) = 0 then N else (n_D_sendIfWaiting N s))
theorem c_D_resend {L : Nat} {xs : Nat → Int} (N : mm_N) (s : Int) (hK : cK N) (hS : cS N) (hc : 0 ≤ N 14 1 ∧ N 14 1 < 25) (hg : 0 ≤ N 0 6 ∧ N 0 6 < 13) : mm_Cl mm_pf mm_bd L xs mm_pr 5 60 [.inr (some 0), .inl s] shW N (fun r sh N' => r = some (.inl (r_D_resend N s)) ∧ sh = shW ∧ n_D_resend N s = N') := by
  refine mm_start p_D_resend ?_
  refine mm_go 3 (Y := (5, [(0, .inr (some 0)), (1, .inl s)], [.inl 2, .inr (some 13)], shW, N, 0, 0)) rfl ?_
  refine mm_cd (Y := (6, [(0, .inr (some 0)), (1, .inl s)], [.inl (N 13 2)], shW, N, 0, 0)) rfl ⟨by omega, by omega⟩ ?_
  refine mm_go 1 (Y := (if (N 13 2) = 0 then 20 else 9, [(0, .inr (some 0)), (1, .inl s)], [], shW, N, 0, 0)) rfl ?_
  refine mm_if (fun h1 => ?_) (fun h1 => ?_)
  · skip
    refine mm_go 1 (Y := (21, [(0, .inr (some 0)), (1, .inl s)], [.inl 0], shW, N, 0, 0)) rfl ?_
    exact mm_rt rfl ⟨rfl, Or.inr ⟨rfl, (Or.inl rfl)⟩⟩ ⟨by unfold r_D_resend; rw [if_pos h1], rfl, by unfold n_D_resend; rw [if_pos h1]⟩
  · skip
    refine mm_go 3 (Y := (14, [(0, .inr (some 0)), (1, .inl s)], [.inl (N 0 6), .inl s], shW, N, 0, 0)) rfl ?_
    refine mm_ca rfl ⟨Nat.le_of_ble_eq_true rfl, rfl, Nat.le_of_ble_eq_true rfl, Nat.le_of_ble_eq_true rfl⟩ (d' := 1) (by decide) (c_D_isBelow N s (N 0 6)) ?_
    rintro _ _ _ ⟨rfl, rfl, rfl⟩
    refine mm_go 0 (Y := (17, [(0, .inr (some 0)), (1, .inl s)], [.inl (r_D_isBelow N s (N 0 6))], shW, N, 0, 0)) rfl ?_
    refine mm_go 1 (Y := (if (r_D_isBelow N s (N 0 6)) = 0 then 20 else 22, [(0, .inr (some 0)), (1, .inl s)], [], shW, N, 0, 0)) rfl ?_
    refine mm_if (fun h2 => ?_) (fun h2 => ?_)
    · skip
      refine mm_go 1 (Y := (21, [(0, .inr (some 0)), (1, .inl s)], [.inl 0], shW, N, 0, 0)) rfl ?_
      exact mm_rt rfl ⟨rfl, Or.inr ⟨rfl, (Or.inl rfl)⟩⟩ ⟨by unfold r_D_resend; rw [if_neg h1, if_pos h2], rfl, by unfold n_D_resend; rw [if_neg h1, if_pos h2]⟩
    · skip
      have bh2 := b_isBelow h2
      refine mm_go 2 (Y := (24, [(0, .inr (some 0)), (1, .inl s)], [.inl s, .inr (some 0)], shW, N, 0, 0)) rfl ?_
      refine mm_ca rfl ⟨⟨_, rfl⟩, rfl, Nat.le_of_ble_eq_true rfl, Nat.le_of_ble_eq_true rfl⟩ (d' := 4) (by decide) (c_D_sendIfWaiting N s ⟨by omega, by omega⟩ (by assumption) (by assumption) (by assumption)) ?_
      rintro _ _ _ ⟨rfl, rfl, rfl⟩
      refine mm_go 0 (Y := (27, [(0, .inr (some 0)), (1, .inl s)], [.inl (r_D_sendIfWaiting N s)], shW, (n_D_sendIfWaiting N s), 0, 0)) rfl ?_
      exact mm_rt rfl ⟨rfl, Or.inr ⟨rfl, (by unfold r_D_sendIfWaiting; split <;> omega)⟩⟩ ⟨by unfold r_D_resend; rw [if_neg h1, if_neg h2], rfl, by unfold n_D_resend; rw [if_neg h1, if_neg h2]⟩
def r_D_amount (N : mm_N) (d : Int) (t : Int) : Int := if (r_D_isBelow N d 2) = 0 then 0 else (if (r_D_isBelow N t 8) = 0 then 0 else (N (8 + 3 * (d.toNat)) (t.toNat)))
theorem c_D_amount {L : Nat} {xs : Nat → Int} (N : mm_N) (d : Int) (t : Int) : mm_Cl mm_pf mm_bd L xs mm_pr 2 66 [.inr (some 0), .inl d, .inl t] shW N (fun r sh N' => r = some (.inl (r_D_amount N d t)) ∧ sh = shW ∧ N = N') := by
  refine mm_start p_D_amount ?_
  refine mm_go 2 (Y := (2, [(0, .inr (some 0)), (1, .inl d), (2, .inl t)], [.inl 2, .inl d], shW, N, 0, 0)) rfl ?_
  refine mm_ca rfl ⟨Nat.le_of_ble_eq_true rfl, rfl, Nat.le_of_ble_eq_true rfl, Nat.le_of_ble_eq_true rfl⟩ (d' := 1) (by decide) (c_D_isBelow N d 2) ?_
  rintro _ _ _ ⟨rfl, rfl, rfl⟩
  refine mm_go 0 (Y := (5, [(0, .inr (some 0)), (1, .inl d), (2, .inl t)], [.inl (r_D_isBelow N d 2)], shW, N, 0, 0)) rfl ?_
  refine mm_go 1 (Y := (if (r_D_isBelow N d 2) = 0 then 17 else 8, [(0, .inr (some 0)), (1, .inl d), (2, .inl t)], [], shW, N, 0, 0)) rfl ?_
  refine mm_if (fun h1 => ?_) (fun h1 => ?_)
  · skip
    refine mm_go 1 (Y := (18, [(0, .inr (some 0)), (1, .inl d), (2, .inl t)], [.inl 0], shW, N, 0, 0)) rfl ?_
    exact mm_rt rfl ⟨rfl, Or.inl rfl⟩ ⟨by unfold r_D_amount; rw [if_pos h1], rfl, rfl⟩
  · skip
    have bh1 := b_isBelow h1
    refine mm_go 2 (Y := (11, [(0, .inr (some 0)), (1, .inl d), (2, .inl t)], [.inl 8, .inl t], shW, N, 0, 0)) rfl ?_
    refine mm_ca rfl ⟨Nat.le_of_ble_eq_true rfl, rfl, Nat.le_of_ble_eq_true rfl, Nat.le_of_ble_eq_true rfl⟩ (d' := 1) (by decide) (c_D_isBelow N t 8) ?_
    rintro _ _ _ ⟨rfl, rfl, rfl⟩
    refine mm_go 0 (Y := (14, [(0, .inr (some 0)), (1, .inl d), (2, .inl t)], [.inl (r_D_isBelow N t 8)], shW, N, 0, 0)) rfl ?_
    refine mm_go 1 (Y := (if (r_D_isBelow N t 8) = 0 then 17 else 19, [(0, .inr (some 0)), (1, .inl d), (2, .inl t)], [], shW, N, 0, 0)) rfl ?_
    refine mm_if (fun h2 => ?_) (fun h2 => ?_)
    · skip
      refine mm_go 1 (Y := (18, [(0, .inr (some 0)), (1, .inl d), (2, .inl t)], [.inl 0], shW, N, 0, 0)) rfl ?_
      exact mm_rt rfl ⟨rfl, Or.inl rfl⟩ ⟨by unfold r_D_amount; rw [if_neg h1, if_pos h2], rfl, rfl⟩
    · skip
      have bh2 := b_isBelow h2
      refine mm_go 3 (Y := (24, [(0, .inr (some 0)), (1, .inl d), (2, .inl t)], [.inl d, .inr (some 6)], shW, N, 0, 0)) rfl ?_
      refine mm_al rfl rfl (by decide) ⟨by omega, by omega⟩ (sv_at (by omega) (by omega)) (Y := (25, [(0, .inr (some 0)), (1, .inl d), (2, .inl t)], [.inr (some (7 + 3 * d.toNat))], shW, N, 0, 0)) rfl ?_
      refine mm_go 1 (Y := (26, [(0, .inr (some 0)), (1, .inl d), (2, .inl t)], [.inl t, .inr (some (7 + 3 * d.toNat))], shW, N, 0, 0)) rfl ?_
      refine mm_ca rfl ⟨⟨_, sv_o (n := d.toNat) (by omega)⟩, rfl, Nat.le_of_ble_eq_true rfl, Nat.le_of_ble_eq_true rfl⟩ (d' := 1) (by decide) (c_V_stockOf N (d.toNat) t (by omega) ⟨by omega, by omega⟩) ?_
      rintro _ _ _ ⟨rfl, rfl, rfl⟩
      refine mm_go 0 (Y := (29, [(0, .inr (some 0)), (1, .inl d), (2, .inl t)], [.inl (N (8 + 3 * (d.toNat)) (t.toNat))], shW, N, 0, 0)) rfl ?_
      exact mm_rt rfl ⟨rfl, Or.inl rfl⟩ ⟨by unfold r_D_amount; rw [if_neg h1, if_neg h2], rfl, rfl⟩
def r_D_status (N : mm_N) (s : Int) : Int := if (r_D_isBelow N s (N 0 6)) = 0 then (-1) else (if (r_D_isWaiting N s) = 0 then ((r_S_standing N (s.toNat)) + 0) else ((r_S_standing N (s.toNat)) + 1000))
theorem c_D_status {L : Nat} {xs : Nat → Int} (N : mm_N) (s : Int) (hS : cS N) (hK : cK N) (hg : 0 ≤ N 0 6 ∧ N 0 6 < 13) : mm_Cl mm_pf mm_bd L xs mm_pr 4 68 [.inr (some 0), .inl s] shW N (fun r sh N' => r = some (.inl (r_D_status N s)) ∧ sh = shW ∧ N = N') := by
  refine mm_start p_D_status ?_
  refine mm_go 3 (Y := (5, [(0, .inr (some 0)), (1, .inl s)], [.inl (N 0 6), .inl s], shW, N, 0, 0)) rfl ?_
  refine mm_ca rfl ⟨Nat.le_of_ble_eq_true rfl, rfl, Nat.le_of_ble_eq_true rfl, Nat.le_of_ble_eq_true rfl⟩ (d' := 1) (by decide) (c_D_isBelow N s (N 0 6)) ?_
  rintro _ _ _ ⟨rfl, rfl, rfl⟩
  refine mm_go 0 (Y := (8, [(0, .inr (some 0)), (1, .inl s)], [.inl (r_D_isBelow N s (N 0 6))], shW, N, 0, 0)) rfl ?_
  refine mm_go 1 (Y := (if (r_D_isBelow N s (N 0 6)) = 0 then 11 else 13, [(0, .inr (some 0)), (1, .inl s)], [], shW, N, 0, 0)) rfl ?_
  refine mm_if (fun h1 => ?_) (fun h1 => ?_)
  · skip
    refine mm_go 1 (Y := (12, [(0, .inr (some 0)), (1, .inl s)], [.inl (-1)], shW, N, 0, 0)) rfl ?_
    exact mm_rt rfl ⟨rfl, Or.inl rfl⟩ ⟨by unfold r_D_status; rw [if_pos h1], rfl, rfl⟩
  · skip
    have bh1 := b_isBelow h1
    have g := hS s.toNat (by omega)
    have k := hK.1 (N (19 + s.toNat) 0).toNat (by omega)
    have sb := st_b (N := N) (n := s.toNat) (by omega) (by omega)
    refine mm_go 3 (Y := (18, [(0, .inr (some 0)), (1, .inl s)], [.inl s, .inr (some 18)], shW, N, 0, 0)) rfl ?_
    refine mm_al rfl rfl (by decide) ⟨by omega, by omega⟩ (sg_at (by omega) (by omega)) (Y := (19, [(0, .inr (some 0)), (1, .inl s)], [.inr (some (19 + s.toNat))], shW, N, 0, 0)) rfl ?_
    refine mm_go 2 (Y := (23, [(0, .inr (some 0)), (1, .inl s)], [.inr (some 1), .inr (some (19 + s.toNat))], shW, N, 0, 0)) rfl ?_
    refine mm_ca rfl ⟨⟨_, sg_o (n := s.toNat) (by omega)⟩, rfl, Nat.le_of_ble_eq_true rfl, Nat.le_of_ble_eq_true rfl⟩ (d' := 3) (by decide) (c_S_standing N (s.toNat) (by omega) ⟨by first | omega | (simp [mm_f2_at, mm_f0_at]; omega), by first | omega | (simp [mm_f2_at, mm_f0_at]; omega)⟩ ⟨by first | omega | (simp [mm_f2_at, mm_f0_at]; omega), by first | omega | (simp [mm_f2_at, mm_f0_at]; omega)⟩ ⟨by first | omega | (simp [mm_f2_at, mm_f0_at]; omega), by first | omega | (simp [mm_f2_at, mm_f0_at]; omega)⟩) ?_
    rintro _ _ _ ⟨rfl, rfl, rfl⟩
    refine mm_go 0 (Y := (26, [(0, .inr (some 0)), (1, .inl s)], [.inl (r_S_standing N (s.toNat))], shW, N, 0, 0)) rfl ?_
    refine mm_go 2 (Y := (28, [(0, .inr (some 0)), (1, .inl s)], [.inl s, .inr (some 0), .inl (r_S_standing N (s.toNat))], shW, N, 0, 0)) rfl ?_
    refine mm_ca rfl ⟨⟨_, rfl⟩, rfl, Nat.le_of_ble_eq_true rfl, Nat.le_of_ble_eq_true rfl⟩ (d' := 3) (by decide) (c_D_isWaiting N s ⟨by omega, by omega⟩ (by assumption)) ?_
    rintro _ _ _ ⟨rfl, rfl, rfl⟩
    refine mm_go 0 (Y := (31, [(0, .inr (some 0)), (1, .inl s)], [.inl (r_D_isWaiting N s), .inl (r_S_standing N (s.toNat))], shW, N, 0, 0)) rfl ?_
    refine mm_go 1 (Y := (if (r_D_isWaiting N s) = 0 then 40 else 34, [(0, .inr (some 0)), (1, .inl s)], [.inl (r_S_standing N (s.toNat))], shW, N, 0, 0)) rfl ?_
    refine mm_if (fun h2 => ?_) (fun h2 => ?_)
    · skip
      refine mm_go 2 (Y := (42, [(0, .inr (some 0)), (1, .inl s)], [.inl (mm_wr ((r_S_standing N (s.toNat)) + 0))], shW, N, 0, 0)) rfl ?_
      rw [mm_wr_id (z := (r_S_standing N (s.toNat)) + 0) (by omega) (by omega)]
      exact mm_rt rfl ⟨rfl, Or.inl rfl⟩ ⟨by unfold r_D_status; rw [if_neg h1, if_pos h2], rfl, rfl⟩
    · skip
      refine mm_go 3 (Y := (42, [(0, .inr (some 0)), (1, .inl s)], [.inl (mm_wr ((r_S_standing N (s.toNat)) + 1000))], shW, N, 0, 0)) rfl ?_
      rw [mm_wr_id (z := (r_S_standing N (s.toNat)) + 1000) (by omega) (by omega)]
      exact mm_rt rfl ⟨rfl, Or.inl rfl⟩ ⟨by unfold r_D_status; rw [if_neg h1, if_neg h2], rfl, rfl⟩
theorem c_D_messages {L : Nat} {xs : Nat → Int} (N : mm_N)  : mm_Cl mm_pf mm_bd L xs mm_pr 2 70 [.inr (some 0)] shW N (fun r sh N' => r = some (.inl ((N 14 1))) ∧ sh = shW ∧ N = N') := by
  refine mm_start p_D_messages ?_
  refine mm_go 2 (Y := (4, [(0, .inr (some 0))], [.inr (some 14)], shW, N, 0, 0)) rfl ?_
  refine mm_ca rfl ⟨⟨_, rfl⟩, rfl, Nat.le_of_ble_eq_true rfl, Nat.le_of_ble_eq_true rfl⟩ (d' := 1) (by decide) (c_L_size N) ?_
  rintro _ _ _ ⟨rfl, rfl, rfl⟩
  refine mm_go 0 (Y := (7, [(0, .inr (some 0))], [.inl (N 14 1)], shW, N, 0, 0)) rfl ?_
  exact mm_rt rfl ⟨rfl, Or.inl rfl⟩ ⟨rfl, rfl, rfl⟩
def r_D_message (N : mm_N) (k : Int) : Int := if (r_D_isBelow N k (N 14 1)) = 0 then (-1) else (N 15 (k.toNat))
theorem c_D_message {L : Nat} {xs : Nat → Int} (N : mm_N) (k : Int) (hc : 0 ≤ N 14 1 ∧ N 14 1 < 25) : mm_Cl mm_pf mm_bd L xs mm_pr 2 71 [.inr (some 0), .inl k] shW N (fun r sh N' => r = some (.inl (r_D_message N k)) ∧ sh = shW ∧ N = N') := by
  refine mm_start p_D_message ?_
  refine mm_go 3 (Y := (5, [(0, .inr (some 0)), (1, .inl k)], [.inr (some 14), .inl k], shW, N, 0, 0)) rfl ?_
  refine mm_ca rfl ⟨⟨_, rfl⟩, rfl, Nat.le_of_ble_eq_true rfl, Nat.le_of_ble_eq_true rfl⟩ (d' := 1) (by decide) (c_L_size N) ?_
  rintro _ _ _ ⟨rfl, rfl, rfl⟩
  refine mm_go 0 (Y := (8, [(0, .inr (some 0)), (1, .inl k)], [.inl (N 14 1), .inl k], shW, N, 0, 0)) rfl ?_
  refine mm_ca rfl ⟨Nat.le_of_ble_eq_true rfl, rfl, Nat.le_of_ble_eq_true rfl, Nat.le_of_ble_eq_true rfl⟩ (d' := 1) (by decide) (c_D_isBelow N k (N 14 1)) ?_
  rintro _ _ _ ⟨rfl, rfl, rfl⟩
  refine mm_go 0 (Y := (11, [(0, .inr (some 0)), (1, .inl k)], [.inl (r_D_isBelow N k (N 14 1))], shW, N, 0, 0)) rfl ?_
  refine mm_go 1 (Y := (if (r_D_isBelow N k (N 14 1)) = 0 then 25 else 14, [(0, .inr (some 0)), (1, .inl k)], [], shW, N, 0, 0)) rfl ?_
  refine mm_if (fun h1 => ?_) (fun h1 => ?_)
  · skip
    refine mm_go 1 (Y := (26, [(0, .inr (some 0)), (1, .inl k)], [.inl (-1)], shW, N, 0, 0)) rfl ?_
    exact mm_rt rfl ⟨rfl, Or.inl rfl⟩ ⟨by unfold r_D_message; rw [if_pos h1], rfl, rfl⟩
  · skip
    have bh1 := b_isBelow h1
    refine mm_go 3 (Y := (19, [(0, .inr (some 0)), (1, .inl k)], [.inl k, .inr (some 14)], shW, N, 0, 0)) rfl ?_
    refine mm_ca rfl ⟨⟨_, rfl⟩, rfl, Nat.le_of_ble_eq_true rfl, Nat.le_of_ble_eq_true rfl⟩ (d' := 1) (by decide) (c_L_at N k ⟨by omega, by omega⟩) ?_
    rintro _ _ _ ⟨rfl, rfl, rfl⟩
    refine mm_go 0 (Y := (22, [(0, .inr (some 0)), (1, .inl k)], [.inl (N 15 (k.toNat))], shW, N, 0, 0)) rfl ?_
    refine mm_go 1 (Y := (26, [(0, .inr (some 0)), (1, .inl k)], [.inl (N 15 (k.toNat))], shW, N, 0, 0)) rfl ?_
    exact mm_rt rfl ⟨rfl, Or.inl rfl⟩ ⟨by unfold r_D_message; rw [if_neg h1], rfl, rfl⟩
theorem c_D_logged {L : Nat} {xs : Nat → Int} (N : mm_N)  : mm_Cl mm_pf mm_bd L xs mm_pr 2 72 [.inr (some 0)] shW N (fun r sh N' => r = some (.inl ((N 16 1))) ∧ sh = shW ∧ N = N') := by
  refine mm_start p_D_logged ?_
  refine mm_go 2 (Y := (4, [(0, .inr (some 0))], [.inr (some 16)], shW, N, 0, 0)) rfl ?_
  refine mm_ca rfl ⟨⟨_, rfl⟩, rfl, Nat.le_of_ble_eq_true rfl, Nat.le_of_ble_eq_true rfl⟩ (d' := 1) (by decide) (c_G_size N) ?_
  rintro _ _ _ ⟨rfl, rfl, rfl⟩
  refine mm_go 0 (Y := (7, [(0, .inr (some 0))], [.inl (N 16 1)], shW, N, 0, 0)) rfl ?_
  exact mm_rt rfl ⟨rfl, Or.inl rfl⟩ ⟨rfl, rfl, rfl⟩
theorem c_D_durable {L : Nat} {xs : Nat → Int} (N : mm_N)  : mm_Cl mm_pf mm_bd L xs mm_pr 2 73 [.inr (some 0)] shW N (fun r sh N' => r = some (.inl ((N 16 2))) ∧ sh = shW ∧ N = N') := by
  refine mm_start p_D_durable ?_
  refine mm_go 2 (Y := (4, [(0, .inr (some 0))], [.inr (some 16)], shW, N, 0, 0)) rfl ?_
  refine mm_ca rfl ⟨⟨_, rfl⟩, rfl, Nat.le_of_ble_eq_true rfl, Nat.le_of_ble_eq_true rfl⟩ (d' := 1) (by decide) (c_G_safeSize N) ?_
  rintro _ _ _ ⟨rfl, rfl, rfl⟩
  refine mm_go 0 (Y := (7, [(0, .inr (some 0))], [.inl (N 16 2)], shW, N, 0, 0)) rfl ?_
  exact mm_rt rfl ⟨rfl, Or.inl rfl⟩ ⟨rfl, rfl, rfl⟩
def r_D_logByte (N : mm_N) (p : Int) : Int := if (r_D_isBelow N p (N 16 1)) = 0 then (-1) else (N 17 (p.toNat))
theorem c_D_logByte {L : Nat} {xs : Nat → Int} (N : mm_N) (p : Int) (hw : 0 ≤ N 16 1 ∧ N 16 1 < 289) : mm_Cl mm_pf mm_bd L xs mm_pr 2 74 [.inr (some 0), .inl p] shW N (fun r sh N' => r = some (.inl (r_D_logByte N p)) ∧ sh = shW ∧ N = N') := by
  refine mm_start p_D_logByte ?_
  refine mm_go 3 (Y := (5, [(0, .inr (some 0)), (1, .inl p)], [.inr (some 16), .inl p], shW, N, 0, 0)) rfl ?_
  refine mm_ca rfl ⟨⟨_, rfl⟩, rfl, Nat.le_of_ble_eq_true rfl, Nat.le_of_ble_eq_true rfl⟩ (d' := 1) (by decide) (c_G_size N) ?_
  rintro _ _ _ ⟨rfl, rfl, rfl⟩
  refine mm_go 0 (Y := (8, [(0, .inr (some 0)), (1, .inl p)], [.inl (N 16 1), .inl p], shW, N, 0, 0)) rfl ?_
  refine mm_ca rfl ⟨Nat.le_of_ble_eq_true rfl, rfl, Nat.le_of_ble_eq_true rfl, Nat.le_of_ble_eq_true rfl⟩ (d' := 1) (by decide) (c_D_isBelow N p (N 16 1)) ?_
  rintro _ _ _ ⟨rfl, rfl, rfl⟩
  refine mm_go 0 (Y := (11, [(0, .inr (some 0)), (1, .inl p)], [.inl (r_D_isBelow N p (N 16 1))], shW, N, 0, 0)) rfl ?_
  refine mm_go 1 (Y := (if (r_D_isBelow N p (N 16 1)) = 0 then 25 else 14, [(0, .inr (some 0)), (1, .inl p)], [], shW, N, 0, 0)) rfl ?_
  refine mm_if (fun h1 => ?_) (fun h1 => ?_)
  · skip
    refine mm_go 1 (Y := (26, [(0, .inr (some 0)), (1, .inl p)], [.inl (-1)], shW, N, 0, 0)) rfl ?_
    exact mm_rt rfl ⟨rfl, Or.inl rfl⟩ ⟨by unfold r_D_logByte; rw [if_pos h1], rfl, rfl⟩
  · skip
    have bh1 := b_isBelow h1
    refine mm_go 3 (Y := (19, [(0, .inr (some 0)), (1, .inl p)], [.inl p, .inr (some 16)], shW, N, 0, 0)) rfl ?_
    refine mm_ca rfl ⟨⟨_, rfl⟩, rfl, Nat.le_of_ble_eq_true rfl, Nat.le_of_ble_eq_true rfl⟩ (d' := 1) (by decide) (c_G_byteAt N p ⟨by omega, by omega⟩) ?_
    rintro _ _ _ ⟨rfl, rfl, rfl⟩
    refine mm_go 0 (Y := (22, [(0, .inr (some 0)), (1, .inl p)], [.inl (N 17 (p.toNat))], shW, N, 0, 0)) rfl ?_
    refine mm_go 1 (Y := (26, [(0, .inr (some 0)), (1, .inl p)], [.inl (N 17 (p.toNat))], shW, N, 0, 0)) rfl ?_
    exact mm_rt rfl ⟨rfl, Or.inl rfl⟩ ⟨by unfold r_D_logByte; rw [if_neg h1], rfl, rfl⟩
def r_D_answered (N : mm_N) (d : Int) : Int := if (r_D_isBelow N d 2) = 0 then (-1) else (N (7 + 3 * (d.toNat)) 2)
theorem c_D_answered {L : Nat} {xs : Nat → Int} (N : mm_N) (d : Int) : mm_Cl mm_pf mm_bd L xs mm_pr 2 76 [.inr (some 0), .inl d] shW N (fun r sh N' => r = some (.inl (r_D_answered N d)) ∧ sh = shW ∧ N = N') := by
  refine mm_start p_D_answered ?_
  refine mm_go 2 (Y := (2, [(0, .inr (some 0)), (1, .inl d)], [.inl 2, .inl d], shW, N, 0, 0)) rfl ?_
  refine mm_ca rfl ⟨Nat.le_of_ble_eq_true rfl, rfl, Nat.le_of_ble_eq_true rfl, Nat.le_of_ble_eq_true rfl⟩ (d' := 1) (by decide) (c_D_isBelow N d 2) ?_
  rintro _ _ _ ⟨rfl, rfl, rfl⟩
  refine mm_go 0 (Y := (5, [(0, .inr (some 0)), (1, .inl d)], [.inl (r_D_isBelow N d 2)], shW, N, 0, 0)) rfl ?_
  refine mm_go 1 (Y := (if (r_D_isBelow N d 2) = 0 then 20 else 8, [(0, .inr (some 0)), (1, .inl d)], [], shW, N, 0, 0)) rfl ?_
  refine mm_if (fun h1 => ?_) (fun h1 => ?_)
  · skip
    refine mm_go 1 (Y := (21, [(0, .inr (some 0)), (1, .inl d)], [.inl (-1)], shW, N, 0, 0)) rfl ?_
    exact mm_rt rfl ⟨rfl, Or.inl rfl⟩ ⟨by unfold r_D_answered; rw [if_pos h1], rfl, rfl⟩
  · skip
    have bh1 := b_isBelow h1
    refine mm_go 3 (Y := (13, [(0, .inr (some 0)), (1, .inl d)], [.inl d, .inr (some 6)], shW, N, 0, 0)) rfl ?_
    refine mm_al rfl rfl (by decide) ⟨by omega, by omega⟩ (sv_at (by omega) (by omega)) (Y := (14, [(0, .inr (some 0)), (1, .inl d)], [.inr (some (7 + 3 * d.toNat))], shW, N, 0, 0)) rfl ?_
    refine mm_ca rfl ⟨⟨_, sv_o (n := d.toNat) (by omega)⟩, rfl, Nat.le_of_ble_eq_true rfl, Nat.le_of_ble_eq_true rfl⟩ (d' := 1) (by decide) (c_V_answerCount N (d.toNat) (by omega)) ?_
    rintro _ _ _ ⟨rfl, rfl, rfl⟩
    refine mm_go 0 (Y := (17, [(0, .inr (some 0)), (1, .inl d)], [.inl (N (7 + 3 * (d.toNat)) 2)], shW, N, 0, 0)) rfl ?_
    refine mm_go 1 (Y := (21, [(0, .inr (some 0)), (1, .inl d)], [.inl (N (7 + 3 * (d.toNat)) 2)], shW, N, 0, 0)) rfl ?_
    exact mm_rt rfl ⟨rfl, Or.inl rfl⟩ ⟨by unfold r_D_answered; rw [if_neg h1], rfl, rfl⟩
def r_D_up (N : mm_N) (d : Int) : Int := if (r_D_isBelow N d 3) = 0 then 0 else (if (N 13 (d.toNat)) = 0 then 0 else 1)
theorem c_D_up {L : Nat} {xs : Nat → Int} (N : mm_N) (d : Int) : mm_Cl mm_pf mm_bd L xs mm_pr 2 78 [.inr (some 0), .inl d] shW N (fun r sh N' => r = some (.inl (r_D_up N d)) ∧ sh = shW ∧ N = N') := by
  refine mm_start p_D_up ?_
  refine mm_go 2 (Y := (2, [(0, .inr (some 0)), (1, .inl d)], [.inl 3, .inl d], shW, N, 0, 0)) rfl ?_
  refine mm_ca rfl ⟨Nat.le_of_ble_eq_true rfl, rfl, Nat.le_of_ble_eq_true rfl, Nat.le_of_ble_eq_true rfl⟩ (d' := 1) (by decide) (c_D_isBelow N d 3) ?_
  rintro _ _ _ ⟨rfl, rfl, rfl⟩
  refine mm_go 0 (Y := (5, [(0, .inr (some 0)), (1, .inl d)], [.inl (r_D_isBelow N d 3)], shW, N, 0, 0)) rfl ?_
  refine mm_go 1 (Y := (if (r_D_isBelow N d 3) = 0 then 21 else 8, [(0, .inr (some 0)), (1, .inl d)], [], shW, N, 0, 0)) rfl ?_
  refine mm_if (fun h1 => ?_) (fun h1 => ?_)
  · skip
    refine mm_go 1 (Y := (22, [(0, .inr (some 0)), (1, .inl d)], [.inl 0], shW, N, 0, 0)) rfl ?_
    exact mm_rt rfl ⟨rfl, Or.inr ⟨rfl, (Or.inl rfl)⟩⟩ ⟨by unfold r_D_up; rw [if_pos h1], rfl, rfl⟩
  · skip
    have bh1 := b_isBelow h1
    refine mm_go 3 (Y := (13, [(0, .inr (some 0)), (1, .inl d)], [.inl d, .inr (some 13)], shW, N, 0, 0)) rfl ?_
    refine mm_cd (Y := (14, [(0, .inr (some 0)), (1, .inl d)], [.inl (N 13 (d.toNat))], shW, N, 0, 0)) rfl ⟨by omega, by omega⟩ ?_
    refine mm_go 1 (Y := (if (N 13 (d.toNat)) = 0 then 21 else 17, [(0, .inr (some 0)), (1, .inl d)], [], shW, N, 0, 0)) rfl ?_
    refine mm_if (fun h2 => ?_) (fun h2 => ?_)
    · skip
      refine mm_go 1 (Y := (22, [(0, .inr (some 0)), (1, .inl d)], [.inl 0], shW, N, 0, 0)) rfl ?_
      exact mm_rt rfl ⟨rfl, Or.inr ⟨rfl, (Or.inl rfl)⟩⟩ ⟨by unfold r_D_up; rw [if_neg h1, if_pos h2], rfl, rfl⟩
    · skip
      refine mm_go 2 (Y := (22, [(0, .inr (some 0)), (1, .inl d)], [.inl 1], shW, N, 0, 0)) rfl ?_
      exact mm_rt rfl ⟨rfl, Or.inr ⟨rfl, (Or.inr rfl)⟩⟩ ⟨by unfold r_D_up; rw [if_neg h1, if_neg h2], rfl, rfl⟩
