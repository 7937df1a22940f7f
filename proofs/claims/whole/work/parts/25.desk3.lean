/-! loops of the desk -/
theorem c_G_secureByte2 {L : Nat} {xs : Nat → Int} (N : mm_N) (hc : 0 ≤ N 16 2 ∧ N 16 2 < 289) (hlt : (N 16 2) < (N 16 1)) : mm_Cl mm_pf mm_bd L xs mm_pr 1 25 [.inr (some 16)] shW N (fun r sh N' => r = none ∧ sh = shW ∧ (mm_f2 N 16 2 ((N 16 2) + 1)) = N') := by
  refine mm_start p_G_secureByte ?_
  refine mm_go 5 (Y := (if (N 16 2) < (N 16 1) then 11 else 21, [(0, .inr (some 16))], [], shW, N, 0, 0)) rfl ?_
  rw [if_pos hlt]
  refine mm_go 5 (Y := (18, [(0, .inr (some 16))], [.inl (mm_wr ((N 16 2) + 1)), .inr (some 16)], shW, N, 0, 0)) rfl ?_
  rw [mm_wr_id (z := (N 16 2) + 1) (by omega) (by omega)]
  refine mm_go 1 (Y := (21, [(0, .inr (some 16))], [], shW, (mm_f2 N 16 2 ((N 16 2) + 1)), 0, 0)) rfl ?_
  exact mm_rt rfl rfl ⟨rfl, rfl, rfl⟩
def drr (p : Int) (N : mm_N) : mm_N := n_D_readRecord N p
def dsd (s : Int) (N : mm_N) : mm_N := n_D_sendIfWaiting N s
def dfl (_ : Int) (N : mm_N) : mm_N := if (N 16 2 + 1) % 3 = 0 then n_D_sendIfWaiting (mm_f2 N 16 2 (N 16 2 + 1)) (N 17 ((3 * ((N 16 2 + 1) / 3 - 1)) + 1).toNat) else mm_f2 N 16 2 (N 16 2 + 1)
theorem dfl_p (x : Int) {N : mm_N} (h : (N 16 2 + 1) % 3 = 0) : dfl x N = n_D_sendIfWaiting (mm_f2 N 16 2 (N 16 2 + 1)) (N 17 ((3 * ((N 16 2 + 1) / 3 - 1)) + 1).toNat) := if_pos h
theorem dfl_n (x : Int) {N : mm_N} (h : ¬ (N 16 2 + 1) % 3 = 0) : dfl x N = mm_f2 N 16 2 (N 16 2 + 1) := if_neg h
theorem lp_D_readLogAgain {L : Nat} {xs : Nat → Int} (N : mm_N)  (c : Nat) (hw : 0 ≤ N 16 1 ∧ N 16 1 < 289) (hcc : (c : Int) = N 16 1 / 3) (hJ : ∀ i, i ≤ c → (itn drr i N) 16 1 = N 16 1 ∧ cS (itn drr i N) ∧ cK (itn drr i N) ∧ (0 ≤ (itn drr i N) 0 6 ∧ (itn drr i N) 0 6 < 1000) ∧ (i < c → 0 ≤ (itn drr i N) 17 ((3 * (i : Int)) + 1).toNat ∧ (itn drr i N) 17 ((3 * (i : Int)) + 1).toNat < 12)) : ∀ (k i : Nat) (x : Int), i + k = c → x = (i : Int) → mm_Wp mm_pf mm_bd L xs (mm_Cl mm_pf mm_bd L xs mm_pr 2) m_D_readLogAgain (fun r sh N' => r = none ∧ sh = shW ∧ itn drr c N = N') (7, [(1, .inl x), (0, .inr (some 0))], [], shW, (itn drr i N), 0, 0) := by
  intro k
  induction k with
  | zero =>
    intro i x hi e0
    obtain ⟨j1, j2, j3, j4, j5⟩ := hJ i (by omega)
    refine mm_go 3 (Y := (12, [(1, .inl x), (0, .inr (some 0))], [.inr (some 16), .inl x], shW, (itn drr i N), 0, 0)) rfl ?_
    refine mm_ca rfl ⟨⟨_, rfl⟩, rfl, Nat.le_of_ble_eq_true rfl, Nat.le_of_ble_eq_true rfl⟩ (d' := 1) (by decide) (c_G_wholeRecords (itn drr i N)  ⟨by first | omega | (simp [mm_f2_at, mm_f0_at]; omega), by first | omega | (simp [mm_f2_at, mm_f0_at]; omega)⟩) ?_
    rintro _ _ _ ⟨rfl, rfl, rfl⟩
    refine mm_go 0 (Y := (15, [(1, .inl x), (0, .inr (some 0))], [.inl ((((itn drr i N) 16 1)) / 3), .inl x], shW, (itn drr i N), 0, 0)) rfl ?_
    refine mm_go 1 (Y := (if x < ((((itn drr i N) 16 1)) / 3) then 18 else 29, [(1, .inl x), (0, .inr (some 0))], [], shW, (itn drr i N), 0, 0)) rfl ?_
    refine mm_if (fun h1 => ?_) (fun h1 => ?_)
    · skip
      exact absurd h1 (by omega)
    · skip
      exact mm_rt rfl rfl ⟨rfl, rfl, by rw [show i = c by omega]⟩
  | succ k ih =>
    intro i x hi e0
    obtain ⟨j1, j2, j3, j4, j5⟩ := hJ i (by omega)
    have j6 := j5 (by omega)
    refine mm_go 3 (Y := (12, [(1, .inl x), (0, .inr (some 0))], [.inr (some 16), .inl x], shW, (itn drr i N), 0, 0)) rfl ?_
    refine mm_ca rfl ⟨⟨_, rfl⟩, rfl, Nat.le_of_ble_eq_true rfl, Nat.le_of_ble_eq_true rfl⟩ (d' := 1) (by decide) (c_G_wholeRecords (itn drr i N)  ⟨by first | omega | (simp [mm_f2_at, mm_f0_at]; omega), by first | omega | (simp [mm_f2_at, mm_f0_at]; omega)⟩) ?_
    rintro _ _ _ ⟨rfl, rfl, rfl⟩
    refine mm_go 0 (Y := (15, [(1, .inl x), (0, .inr (some 0))], [.inl ((((itn drr i N) 16 1)) / 3), .inl x], shW, (itn drr i N), 0, 0)) rfl ?_
    refine mm_go 1 (Y := (if x < ((((itn drr i N) 16 1)) / 3) then 18 else 29, [(1, .inl x), (0, .inr (some 0))], [], shW, (itn drr i N), 0, 0)) rfl ?_
    refine mm_if (fun h1 => ?_) (fun h1 => ?_)
    · skip
      refine mm_go 2 (Y := (20, [(1, .inl x), (0, .inr (some 0))], [.inl x, .inr (some 0)], shW, (itn drr i N), 0, 0)) rfl ?_
      refine mm_ca rfl ⟨⟨_, rfl⟩, rfl, Nat.le_of_ble_eq_true rfl, Nat.le_of_ble_eq_true rfl⟩ (d' := 2) (by decide) (c_D_readRecord (itn drr i N) x ⟨by omega, by omega⟩ (by rw [e0]; exact j6) j2 j3 j4) ?_
      rintro _ _ _ ⟨rfl, rfl, rfl⟩
      refine mm_go 0 (Y := (23, [(1, .inl x), (0, .inr (some 0))], [], shW, (n_D_readRecord (itn drr i N) x), 0, 0)) rfl ?_
      refine mm_go 1 (Y := (26, [(1, .inl (mm_wr (x + 1))), (0, .inr (some 0))], [], shW, (n_D_readRecord (itn drr i N) x), 0, 0)) rfl ?_
      rw [mm_wr_id (z := x + 1) (by omega) (by omega)]
      refine mm_go 1 (Y := (7, [(1, .inl (x + 1)), (0, .inr (some 0))], [], shW, (n_D_readRecord (itn drr i N) x), 0, 0)) rfl ?_
      have e9 : (n_D_readRecord (itn drr i N) x) = itn drr (i + 1) N := by rw [e0]; rfl
      rw [e9]
      exact ih (i + 1) _ (by omega) (by omega)
    · skip
      exact absurd h1 (by omega)
theorem c_D_readLogAgain {L : Nat} {xs : Nat → Int} (N : mm_N)  (c : Nat) (hw : 0 ≤ N 16 1 ∧ N 16 1 < 289) (hcc : (c : Int) = N 16 1 / 3) (hJ : ∀ i, i ≤ c → (itn drr i (mm_f2 N 0 6 0)) 16 1 = N 16 1 ∧ cS (itn drr i (mm_f2 N 0 6 0)) ∧ cK (itn drr i (mm_f2 N 0 6 0)) ∧ (0 ≤ (itn drr i (mm_f2 N 0 6 0)) 0 6 ∧ (itn drr i (mm_f2 N 0 6 0)) 0 6 < 1000) ∧ (i < c → 0 ≤ (itn drr i (mm_f2 N 0 6 0)) 17 ((3 * (i : Int)) + 1).toNat ∧ (itn drr i (mm_f2 N 0 6 0)) 17 ((3 * (i : Int)) + 1).toNat < 12)) : mm_Cl mm_pf mm_bd L xs mm_pr 3 63 [.inr (some 0)] shW N (fun r sh N' => r = none ∧ sh = shW ∧ itn drr c (mm_f2 N 0 6 0) = N') := by
  refine mm_start p_D_readLogAgain ?_
  refine mm_go 5 (Y := (7, [(1, .inl 0), (0, .inr (some 0))], [], shW, (mm_f2 N 0 6 0), 0, 0)) rfl ?_
  exact lp_D_readLogAgain (mm_f2 N 0 6 0) c hw hcc hJ c 0 0 (by omega) rfl
def r_D_crash (N : mm_N) (d : Int) : Int := if (r_D_isBelow N d 3) = 0 then 0 else (if (N 13 (d.toNat)) = 0 then 0 else 1)
def n_D_crash (N : mm_N) (d : Int) : mm_N := if (r_D_isBelow N d 3) = 0 then N else (if (N 13 (d.toNat)) = 0 then N else (if d = 2 then (itn drr (((mm_f2 (mm_f2 N 13 (d.toNat) 0) 16 1 (N 16 2)) 16 1) / 3).toNat (mm_f2 (mm_f2 (mm_f2 N 13 (d.toNat) 0) 16 1 (N 16 2)) 0 6 0)) else (mm_f2 N 13 (d.toNat) 0)))
theorem c_D_crash {L : Nat} {xs : Nat → Int} (N : mm_N) (d : Int) (hs : 0 ≤ N 16 2 ∧ N 16 2 < 289) (hJ : d = 2 → ¬ N 13 d.toNat = 0 → ∀ i, i ≤ (N 16 2 / 3).toNat → (itn drr i (mm_f2 (mm_f2 (mm_f2 N 13 (d.toNat) 0) 16 1 (N 16 2)) 0 6 0)) 16 1 = N 16 2 ∧ cS (itn drr i (mm_f2 (mm_f2 (mm_f2 N 13 (d.toNat) 0) 16 1 (N 16 2)) 0 6 0)) ∧ cK (itn drr i (mm_f2 (mm_f2 (mm_f2 N 13 (d.toNat) 0) 16 1 (N 16 2)) 0 6 0)) ∧ (0 ≤ (itn drr i (mm_f2 (mm_f2 (mm_f2 N 13 (d.toNat) 0) 16 1 (N 16 2)) 0 6 0)) 0 6 ∧ (itn drr i (mm_f2 (mm_f2 (mm_f2 N 13 (d.toNat) 0) 16 1 (N 16 2)) 0 6 0)) 0 6 < 1000) ∧ (i < (N 16 2 / 3).toNat → 0 ≤ (itn drr i (mm_f2 (mm_f2 (mm_f2 N 13 (d.toNat) 0) 16 1 (N 16 2)) 0 6 0)) 17 ((3 * (i : Int)) + 1).toNat ∧ (itn drr i (mm_f2 (mm_f2 (mm_f2 N 13 (d.toNat) 0) 16 1 (N 16 2)) 0 6 0)) 17 ((3 * (i : Int)) + 1).toNat < 12)) : mm_Cl mm_pf mm_bd L xs mm_pr 4 61 [.inr (some 0), .inl d] shW N (fun r sh N' => r = some (.inl (r_D_crash N d)) ∧ sh = shW ∧ n_D_crash N d = N') := by
  refine mm_start p_D_crash ?_
  refine mm_go 2 (Y := (2, [(0, .inr (some 0)), (1, .inl d)], [.inl 3, .inl d], shW, N, 0, 0)) rfl ?_
  refine mm_ca rfl ⟨Nat.le_of_ble_eq_true rfl, rfl, Nat.le_of_ble_eq_true rfl, Nat.le_of_ble_eq_true rfl⟩ (d' := 1) (by decide) (c_D_isBelow N d 3) ?_
  rintro _ _ _ ⟨rfl, rfl, rfl⟩
  refine mm_go 0 (Y := (5, [(0, .inr (some 0)), (1, .inl d)], [.inl (r_D_isBelow N d 3)], shW, N, 0, 0)) rfl ?_
  refine mm_go 1 (Y := (if (r_D_isBelow N d 3) = 0 then 17 else 8, [(0, .inr (some 0)), (1, .inl d)], [], shW, N, 0, 0)) rfl ?_
  refine mm_if (fun h1 => ?_) (fun h1 => ?_)
  · skip
    refine mm_go 1 (Y := (18, [(0, .inr (some 0)), (1, .inl d)], [.inl 0], shW, N, 0, 0)) rfl ?_
    exact mm_rt rfl ⟨rfl, Or.inr ⟨rfl, (Or.inl rfl)⟩⟩ ⟨by unfold r_D_crash; rw [if_pos h1], rfl, by unfold n_D_crash; rw [if_pos h1]⟩
  · skip
    have bh1 := b_isBelow h1
    refine mm_go 3 (Y := (13, [(0, .inr (some 0)), (1, .inl d)], [.inl d, .inr (some 13)], shW, N, 0, 0)) rfl ?_
    refine mm_cd (Y := (14, [(0, .inr (some 0)), (1, .inl d)], [.inl (N 13 (d.toNat))], shW, N, 0, 0)) rfl ⟨by omega, by omega⟩ ?_
    refine mm_go 1 (Y := (if (N 13 (d.toNat)) = 0 then 17 else 19, [(0, .inr (some 0)), (1, .inl d)], [], shW, N, 0, 0)) rfl ?_
    refine mm_if (fun h2 => ?_) (fun h2 => ?_)
    · skip
      refine mm_go 1 (Y := (18, [(0, .inr (some 0)), (1, .inl d)], [.inl 0], shW, N, 0, 0)) rfl ?_
      exact mm_rt rfl ⟨rfl, Or.inr ⟨rfl, (Or.inl rfl)⟩⟩ ⟨by unfold r_D_crash; rw [if_neg h1, if_pos h2], rfl, by unfold n_D_crash; rw [if_neg h1, if_pos h2]⟩
    · skip
      refine mm_go 4 (Y := (25, [(0, .inr (some 0)), (1, .inl d)], [.inl 0, .inl d, .inr (some 13)], shW, N, 0, 0)) rfl ?_
      refine mm_cd (Y := (26, [(0, .inr (some 0)), (1, .inl d)], [], shW, (mm_f2 N 13 (d.toNat) 0), 0, 0)) rfl ⟨(Or.inl rfl), ⟨by omega, by omega⟩⟩ ?_
      refine mm_go 3 (Y := (if d = 2 then 31 else 42, [(0, .inr (some 0)), (1, .inl d)], [], shW, (mm_f2 N 13 (d.toNat) 0), 0, 0)) rfl ?_
      refine mm_if (fun h3 => ?_) (fun h3 => ?_)
      · skip
        refine mm_go 2 (Y := (35, [(0, .inr (some 0)), (1, .inl d)], [.inr (some 16)], shW, (mm_f2 N 13 (d.toNat) 0), 0, 0)) rfl ?_
        refine mm_ca rfl ⟨⟨_, rfl⟩, rfl, Nat.le_of_ble_eq_true rfl, Nat.le_of_ble_eq_true rfl⟩ (d' := 1) (by decide) (c_G_dropUnsafe (mm_f2 N 13 (d.toNat) 0)) ?_
        rintro _ _ _ ⟨rfl, rfl, rfl⟩
        refine mm_go 0 (Y := (38, [(0, .inr (some 0)), (1, .inl d)], [], shW, (mm_f2 (mm_f2 N 13 (d.toNat) 0) 16 1 (N 16 2)), 0, 0)) rfl ?_
        refine mm_go 1 (Y := (39, [(0, .inr (some 0)), (1, .inl d)], [.inr (some 0)], shW, (mm_f2 (mm_f2 N 13 (d.toNat) 0) 16 1 (N 16 2)), 0, 0)) rfl ?_
        refine mm_ca rfl ⟨⟨_, rfl⟩, rfl, Nat.le_of_ble_eq_true rfl, Nat.le_of_ble_eq_true rfl⟩ (d' := 3) (by decide) (c_D_readLogAgain (mm_f2 (mm_f2 N 13 (d.toNat) 0) 16 1 (N 16 2))  (N 16 2 / 3).toNat hs (by show (((N 16 2 / 3).toNat : Nat) : Int) = N 16 2 / 3; omega) (hJ (by assumption) (by assumption))) ?_
        rintro _ _ _ ⟨rfl, rfl, rfl⟩
        refine mm_go 0 (Y := (42, [(0, .inr (some 0)), (1, .inl d)], [], shW, (itn drr (((mm_f2 (mm_f2 N 13 (d.toNat) 0) 16 1 (N 16 2)) 16 1) / 3).toNat (mm_f2 (mm_f2 (mm_f2 N 13 (d.toNat) 0) 16 1 (N 16 2)) 0 6 0)), 0, 0)) rfl ?_
        refine mm_go 1 (Y := (43, [(0, .inr (some 0)), (1, .inl d)], [.inl 1], shW, (itn drr (((mm_f2 (mm_f2 N 13 (d.toNat) 0) 16 1 (N 16 2)) 16 1) / 3).toNat (mm_f2 (mm_f2 (mm_f2 N 13 (d.toNat) 0) 16 1 (N 16 2)) 0 6 0)), 0, 0)) rfl ?_
        exact mm_rt rfl ⟨rfl, Or.inr ⟨rfl, (Or.inr rfl)⟩⟩ ⟨by unfold r_D_crash; rw [if_neg h1, if_neg h2], rfl, by unfold n_D_crash; rw [if_neg h1, if_neg h2, if_pos h3]⟩
      · skip
        refine mm_go 1 (Y := (43, [(0, .inr (some 0)), (1, .inl d)], [.inl 1], shW, (mm_f2 N 13 (d.toNat) 0), 0, 0)) rfl ?_
        exact mm_rt rfl ⟨rfl, Or.inr ⟨rfl, (Or.inr rfl)⟩⟩ ⟨by unfold r_D_crash; rw [if_neg h1, if_neg h2], rfl, by unfold n_D_crash; rw [if_neg h1, if_neg h2, if_neg h3]⟩
theorem lp_D_restart {L : Nat} {xs : Nat → Int} (N : mm_N) (d : Int) (hg : 0 ≤ N 0 6 ∧ N 0 6 < 13) (hJ : ∀ i, i ≤ (N 0 6).toNat → (itn dsd i N) 0 6 = N 0 6 ∧ cS (itn dsd i N) ∧ cK (itn dsd i N) ∧ 0 ≤ (itn dsd i N) 14 1 ∧ (itn dsd i N) 14 1 < 25) : ∀ (k i : Nat) (x : Int), i + k = (N 0 6).toNat → x = (i : Int) → mm_Wp mm_pf mm_bd L xs (mm_Cl mm_pf mm_bd L xs mm_pr 4) m_D_restart (fun r sh N' => r = some (.inl 1) ∧ sh = shW ∧ itn dsd (N 0 6).toNat N = N') (40, [(2, .inl x), (0, .inr (some 0)), (1, .inl d)], [], shW, (itn dsd i N), 0, 0) := by
  intro k
  induction k with
  | zero =>
    intro i x hi e0
    obtain ⟨j1, j2, j3, j4, j5⟩ := hJ i (by omega)
    refine mm_go 4 (Y := (if x < ((itn dsd i N) 0 6) then 48 else 60, [(2, .inl x), (0, .inr (some 0)), (1, .inl d)], [], shW, (itn dsd i N), 0, 0)) rfl ?_
    refine mm_if (fun h1 => ?_) (fun h1 => ?_)
    · skip
      exact absurd h1 (by omega)
    · skip
      refine mm_go 1 (Y := (61, [(2, .inl x), (0, .inr (some 0)), (1, .inl d)], [.inl 1], shW, (itn dsd i N), 0, 0)) rfl ?_
      exact mm_rt rfl ⟨rfl, Or.inr ⟨rfl, Or.inr rfl⟩⟩ ⟨rfl, rfl, by rw [show i = (N 0 6).toNat by omega]⟩
  | succ k ih =>
    intro i x hi e0
    obtain ⟨j1, j2, j3, j4, j5⟩ := hJ i (by omega)
    refine mm_go 4 (Y := (if x < ((itn dsd i N) 0 6) then 48 else 60, [(2, .inl x), (0, .inr (some 0)), (1, .inl d)], [], shW, (itn dsd i N), 0, 0)) rfl ?_
    refine mm_if (fun h1 => ?_) (fun h1 => ?_)
    · skip
      refine mm_go 2 (Y := (50, [(2, .inl x), (0, .inr (some 0)), (1, .inl d)], [.inl x, .inr (some 0)], shW, (itn dsd i N), 0, 0)) rfl ?_
      refine mm_ca rfl ⟨⟨_, rfl⟩, rfl, Nat.le_of_ble_eq_true rfl, Nat.le_of_ble_eq_true rfl⟩ (d' := 4) (by decide) (c_D_sendIfWaiting (itn dsd i N) x ⟨by omega, by omega⟩ j2 j3 ⟨j4, j5⟩) ?_
      rintro _ _ _ ⟨rfl, rfl, rfl⟩
      refine mm_go 0 (Y := (53, [(2, .inl x), (0, .inr (some 0)), (1, .inl d)], [.inl (r_D_sendIfWaiting (itn dsd i N) x)], shW, (n_D_sendIfWaiting (itn dsd i N) x), 0, 0)) rfl ?_
      refine mm_go 2 (Y := (57, [(2, .inl (mm_wr (x + 1))), (0, .inr (some 0)), (1, .inl d)], [], shW, (n_D_sendIfWaiting (itn dsd i N) x), 0, 0)) rfl ?_
      rw [mm_wr_id (z := x + 1) (by omega) (by omega)]
      refine mm_go 1 (Y := (40, [(2, .inl (x + 1)), (0, .inr (some 0)), (1, .inl d)], [], shW, (n_D_sendIfWaiting (itn dsd i N) x), 0, 0)) rfl ?_
      have e9 : (n_D_sendIfWaiting (itn dsd i N) x) = itn dsd (i + 1) N := by rw [e0]; rfl
      rw [e9]
      exact ih (i + 1) _ (by omega) (by omega)
    · skip
      exact absurd h1 (by omega)
def drs (N : mm_N) (d : Int) : mm_N := mm_f2 (mm_f2 (mm_f2 N 13 (d.toNat) 1) 16 1 (3 * (N 16 1 / 3))) 16 2 (if 3 * (N 16 1 / 3) < N 16 2 then 3 * (N 16 1 / 3) else N 16 2)
def r_D_restart (N : mm_N) (d : Int) : Int := if (r_D_isBelow N d 3) = 0 then 0 else (if (N 13 (d.toNat)) = 0 then 1 else 0)
def n_D_restart (N : mm_N) (d : Int) : mm_N := if (r_D_isBelow N d 3) = 0 then N else (if (N 13 (d.toNat)) = 0 then (if d = 2 then (itn dsd ((drs N d) 0 6).toNat (drs N d)) else (mm_f2 N 13 (d.toNat) 1)) else N)
theorem c_D_restart {L : Nat} {xs : Nat → Int} (N : mm_N) (d : Int) (hw : 0 ≤ N 16 1 ∧ N 16 1 < 289) (hg : 0 ≤ N 0 6 ∧ N 0 6 < 13) (hJ : d = 2 → N 13 d.toNat = 0 → ∀ i, i ≤ (N 0 6).toNat → (itn dsd i (drs N d)) 0 6 = N 0 6 ∧ cS (itn dsd i (drs N d)) ∧ cK (itn dsd i (drs N d)) ∧ 0 ≤ (itn dsd i (drs N d)) 14 1 ∧ (itn dsd i (drs N d)) 14 1 < 25) : mm_Cl mm_pf mm_bd L xs mm_pr 5 64 [.inr (some 0), .inl d] shW N (fun r sh N' => r = some (.inl (r_D_restart N d)) ∧ sh = shW ∧ n_D_restart N d = N') := by
  refine mm_start p_D_restart ?_
  refine mm_go 2 (Y := (2, [(0, .inr (some 0)), (1, .inl d)], [.inl 3, .inl d], shW, N, 0, 0)) rfl ?_
  refine mm_ca rfl ⟨Nat.le_of_ble_eq_true rfl, rfl, Nat.le_of_ble_eq_true rfl, Nat.le_of_ble_eq_true rfl⟩ (d' := 1) (by decide) (c_D_isBelow N d 3) ?_
  rintro _ _ _ ⟨rfl, rfl, rfl⟩
  refine mm_go 0 (Y := (5, [(0, .inr (some 0)), (1, .inl d)], [.inl (r_D_isBelow N d 3)], shW, N, 0, 0)) rfl ?_
  refine mm_go 1 (Y := (if (r_D_isBelow N d 3) = 0 then 17 else 8, [(0, .inr (some 0)), (1, .inl d)], [], shW, N, 0, 0)) rfl ?_
  refine mm_if (fun h1 => ?_) (fun h1 => ?_)
  · skip
    refine mm_go 1 (Y := (18, [(0, .inr (some 0)), (1, .inl d)], [.inl 0], shW, N, 0, 0)) rfl ?_
    exact mm_rt rfl ⟨rfl, Or.inr ⟨rfl, (Or.inl rfl)⟩⟩ ⟨by unfold r_D_restart; rw [if_pos h1], rfl, by unfold n_D_restart; rw [if_pos h1]⟩
  · skip
    have bh1 := b_isBelow h1
    refine mm_go 3 (Y := (13, [(0, .inr (some 0)), (1, .inl d)], [.inl d, .inr (some 13)], shW, N, 0, 0)) rfl ?_
    refine mm_cd (Y := (14, [(0, .inr (some 0)), (1, .inl d)], [.inl (N 13 (d.toNat))], shW, N, 0, 0)) rfl ⟨by omega, by omega⟩ ?_
    refine mm_go 1 (Y := (if (N 13 (d.toNat)) = 0 then 19 else 17, [(0, .inr (some 0)), (1, .inl d)], [], shW, N, 0, 0)) rfl ?_
    refine mm_if (fun h2 => ?_) (fun h2 => ?_)
    · skip
      refine mm_go 4 (Y := (25, [(0, .inr (some 0)), (1, .inl d)], [.inl 1, .inl d, .inr (some 13)], shW, N, 0, 0)) rfl ?_
      refine mm_cd (Y := (26, [(0, .inr (some 0)), (1, .inl d)], [], shW, (mm_f2 N 13 (d.toNat) 1), 0, 0)) rfl ⟨(Or.inr rfl), ⟨by omega, by omega⟩⟩ ?_
      refine mm_go 3 (Y := (if d = 2 then 31 else 60, [(0, .inr (some 0)), (1, .inl d)], [], shW, (mm_f2 N 13 (d.toNat) 1), 0, 0)) rfl ?_
      refine mm_if (fun h3 => ?_) (fun h3 => ?_)
      · skip
        refine mm_go 2 (Y := (35, [(0, .inr (some 0)), (1, .inl d)], [.inr (some 16)], shW, (mm_f2 N 13 (d.toNat) 1), 0, 0)) rfl ?_
        refine mm_ca rfl ⟨⟨_, rfl⟩, rfl, Nat.le_of_ble_eq_true rfl, Nat.le_of_ble_eq_true rfl⟩ (d' := 2) (by decide) (c_G_dropTornRecord (mm_f2 N 13 (d.toNat) 1)  hw) ?_
        rintro _ _ _ ⟨rfl, rfl, rfl⟩
        refine mm_go 0 (Y := (38, [(0, .inr (some 0)), (1, .inl d)], [], shW, (mm_f2 (mm_f2 (mm_f2 N 13 (d.toNat) 1) 16 1 (3 * ((((N 16 1))) / 3))) 16 2 (if (3 * ((((N 16 1))) / 3)) < ((N 16 2)) then 3 * ((((N 16 1))) / 3) else (N 16 2))), 0, 0)) rfl ?_
        refine mm_go 2 (Y := (40, [(2, .inl 0), (0, .inr (some 0)), (1, .inl d)], [], shW, (mm_f2 (mm_f2 (mm_f2 N 13 (d.toNat) 1) 16 1 (3 * ((((N 16 1))) / 3))) 16 2 (if (3 * ((((N 16 1))) / 3)) < ((N 16 2)) then 3 * ((((N 16 1))) / 3) else (N 16 2))), 0, 0)) rfl ?_
        refine mm_wk (lp_D_restart (drs N d) d hg (hJ (by assumption) (by assumption)) (N 0 6).toNat 0 0 (Nat.zero_add _) rfl) ?_
        rintro _ _ _ ⟨rfl, rfl, rfl⟩
        exact ⟨by unfold r_D_restart; rw [if_neg h1, if_pos h2], rfl, by unfold n_D_restart; rw [if_neg h1, if_pos h2, if_pos h3]⟩
      · skip
        refine mm_go 1 (Y := (61, [(0, .inr (some 0)), (1, .inl d)], [.inl 1], shW, (mm_f2 N 13 (d.toNat) 1), 0, 0)) rfl ?_
        exact mm_rt rfl ⟨rfl, Or.inr ⟨rfl, (Or.inr rfl)⟩⟩ ⟨by unfold r_D_restart; rw [if_neg h1, if_pos h2], rfl, by unfold n_D_restart; rw [if_neg h1, if_pos h2, if_neg h3]⟩
    · skip
      refine mm_go 1 (Y := (18, [(0, .inr (some 0)), (1, .inl d)], [.inl 0], shW, N, 0, 0)) rfl ?_
      exact mm_rt rfl ⟨rfl, Or.inr ⟨rfl, (Or.inl rfl)⟩⟩ ⟨by unfold r_D_restart; rw [if_neg h1, if_neg h2], rfl, by unfold n_D_restart; rw [if_neg h1, if_neg h2]⟩
theorem lp_D_flush {L : Nat} {xs : Nat → Int} (N : mm_N) (n : Int) (m : Int) (hs : 0 ≤ N 16 2 ∧ N 16 2 ≤ N 16 1 ∧ N 16 1 < 289) (c : Nat) (hc : (c : Int) = max 0 (min n (N 16 1 - N 16 2))) (hJ : ∀ i, i ≤ c → (itn dfl i N) 16 2 = N 16 2 + i ∧ (itn dfl i N) 16 1 = N 16 1 ∧ cS (itn dfl i N) ∧ cK (itn dfl i N) ∧ (0 ≤ (itn dfl i N) 14 1 ∧ (itn dfl i N) 14 1 < 25) ∧ ∀ p, 0 ≤ p → 3 * p + 3 ≤ N 16 1 → 0 ≤ (itn dfl i N) 17 ((3 * p) + 1).toNat ∧ (itn dfl i N) 17 ((3 * p) + 1).toNat < 12) (hm : m = (c : Int)) : ∀ (k i : Nat) (x : Int), i + k = c → x = (i : Int) → mm_Wp mm_pf mm_bd L xs (mm_Cl mm_pf mm_bd L xs mm_pr 4) m_D_flush (fun r sh N' => r = some (.inl (c : Int)) ∧ sh = shW ∧ itn dfl c N = N') (26, [(3, .inl x), (2, .inl m), (0, .inr (some 0)), (1, .inl n)], [], shW, (itn dfl i N), 0, 0) := by
  intro k
  induction k with
  | zero =>
    intro i x hi e0
    obtain ⟨j1, j2, j3, j4, j5, j6⟩ := hJ i (by omega)
    refine mm_go 3 (Y := (if x < m then 31 else 79, [(3, .inl x), (2, .inl m), (0, .inr (some 0)), (1, .inl n)], [], shW, (itn dfl i N), 0, 0)) rfl ?_
    refine mm_if (fun h1 => ?_) (fun h1 => ?_)
    · skip
      exact absurd h1 (by omega)
    · skip
      refine mm_go 1 (Y := (80, [(3, .inl x), (2, .inl m), (0, .inr (some 0)), (1, .inl n)], [.inl m], shW, (itn dfl i N), 0, 0)) rfl ?_
      exact mm_rt rfl ⟨rfl, Or.inl rfl⟩ ⟨by rw [hm], rfl, by rw [show i = c by omega]⟩
  | succ k ih =>
    intro i x hi e0
    obtain ⟨j1, j2, j3, j4, j5, j6⟩ := hJ i (by omega)
    refine mm_go 3 (Y := (if x < m then 31 else 79, [(3, .inl x), (2, .inl m), (0, .inr (some 0)), (1, .inl n)], [], shW, (itn dfl i N), 0, 0)) rfl ?_
    refine mm_if (fun h1 => ?_) (fun h1 => ?_)
    · skip
      refine mm_go 2 (Y := (35, [(3, .inl x), (2, .inl m), (0, .inr (some 0)), (1, .inl n)], [.inr (some 16)], shW, (itn dfl i N), 0, 0)) rfl ?_
      refine mm_ca rfl ⟨⟨_, rfl⟩, rfl, Nat.le_of_ble_eq_true rfl, Nat.le_of_ble_eq_true rfl⟩ (d' := 1) (by decide) (c_G_secureByte2 (itn dfl i N)  ⟨by omega, by omega⟩ (by omega)) ?_
      rintro _ _ _ ⟨rfl, rfl, rfl⟩
      refine mm_go 0 (Y := (38, [(3, .inl x), (2, .inl m), (0, .inr (some 0)), (1, .inl n)], [], shW, (mm_f2 (itn dfl i N) 16 2 ((((itn dfl i N) 16 2)) + 1)), 0, 0)) rfl ?_
      refine mm_go 2 (Y := (42, [(3, .inl x), (2, .inl m), (0, .inr (some 0)), (1, .inl n)], [.inr (some 16)], shW, (mm_f2 (itn dfl i N) 16 2 ((((itn dfl i N) 16 2)) + 1)), 0, 0)) rfl ?_
      refine mm_ca rfl ⟨⟨_, rfl⟩, rfl, Nat.le_of_ble_eq_true rfl, Nat.le_of_ble_eq_true rfl⟩ (d' := 1) (by decide) (c_G_safeSize (mm_f2 (itn dfl i N) 16 2 ((((itn dfl i N) 16 2)) + 1))) ?_
      rintro _ _ _ ⟨rfl, rfl, rfl⟩
      refine mm_go 0 (Y := (45, [(3, .inl x), (2, .inl m), (0, .inr (some 0)), (1, .inl n)], [.inl ((((itn dfl i N) 16 2)) + 1)], shW, (mm_f2 (itn dfl i N) 16 2 ((((itn dfl i N) 16 2)) + 1)), 0, 0)) rfl ?_
      refine mm_go 1 (Y := (46, [(3, .inl x), (2, .inl m), (0, .inr (some 0)), (1, .inl n)], [.inl 3, .inl ((((itn dfl i N) 16 2)) + 1)], shW, (mm_f2 (itn dfl i N) 16 2 ((((itn dfl i N) 16 2)) + 1)), 0, 0)) rfl ?_
      refine mm_cd (Y := (47, [(3, .inl x), (2, .inl m), (0, .inr (some 0)), (1, .inl n)], [.inl (mm_wr (((((itn dfl i N) 16 2)) + 1).tmod 3))], shW, (mm_f2 (itn dfl i N) 16 2 ((((itn dfl i N) 16 2)) + 1)), 0, 0)) rfl (by decide) ?_
      rw [mm_tmod (x := ((((itn dfl i N) 16 2)) + 1)) (n := 3) (by omega) (by omega) (by omega)]
      refine mm_go 1 (Y := (if (((((itn dfl i N) 16 2)) + 1) % 3) = 0 then 50 else 73, [(3, .inl x), (2, .inl m), (0, .inr (some 0)), (1, .inl n)], [], shW, (mm_f2 (itn dfl i N) 16 2 ((((itn dfl i N) 16 2)) + 1)), 0, 0)) rfl ?_
      refine mm_if (fun h2 => ?_) (fun h2 => ?_)
      · skip
        refine mm_go 5 (Y := (59, [(3, .inl x), (2, .inl m), (0, .inr (some 0)), (1, .inl n)], [.inr (some 16), .inr (some 16), .inr (some 0)], shW, (mm_f2 (itn dfl i N) 16 2 ((((itn dfl i N) 16 2)) + 1)), 0, 0)) rfl ?_
        refine mm_ca rfl ⟨⟨_, rfl⟩, rfl, Nat.le_of_ble_eq_true rfl, Nat.le_of_ble_eq_true rfl⟩ (d' := 1) (by decide) (c_G_safeSize (mm_f2 (itn dfl i N) 16 2 ((((itn dfl i N) 16 2)) + 1))) ?_
        rintro _ _ _ ⟨rfl, rfl, rfl⟩
        refine mm_go 0 (Y := (62, [(3, .inl x), (2, .inl m), (0, .inr (some 0)), (1, .inl n)], [.inl ((((itn dfl i N) 16 2)) + 1), .inr (some 16), .inr (some 0)], shW, (mm_f2 (itn dfl i N) 16 2 ((((itn dfl i N) 16 2)) + 1)), 0, 0)) rfl ?_
        have j7 := j6 (((((itn dfl i N) 16 2) + 1) / 3) - 1) (by omega) (by omega)
        refine mm_go 1 (Y := (63, [(3, .inl x), (2, .inl m), (0, .inr (some 0)), (1, .inl n)], [.inl 3, .inl ((((itn dfl i N) 16 2)) + 1), .inr (some 16), .inr (some 0)], shW, (mm_f2 (itn dfl i N) 16 2 ((((itn dfl i N) 16 2)) + 1)), 0, 0)) rfl ?_
        refine mm_cd (Y := (64, [(3, .inl x), (2, .inl m), (0, .inr (some 0)), (1, .inl n)], [.inl (mm_wr (((((itn dfl i N) 16 2)) + 1).tdiv 3)), .inr (some 16), .inr (some 0)], shW, (mm_f2 (itn dfl i N) 16 2 ((((itn dfl i N) 16 2)) + 1)), 0, 0)) rfl (by decide) ?_
        rw [mm_tdiv (x := ((((itn dfl i N) 16 2)) + 1)) (n := 3) (by omega) (by omega) (by omega)]
        refine mm_go 2 (Y := (66, [(3, .inl x), (2, .inl m), (0, .inr (some 0)), (1, .inl n)], [.inl (mm_wr ((((((itn dfl i N) 16 2)) + 1) / 3) - 1)), .inr (some 16), .inr (some 0)], shW, (mm_f2 (itn dfl i N) 16 2 ((((itn dfl i N) 16 2)) + 1)), 0, 0)) rfl ?_
        rw [mm_wr_id (z := (((((itn dfl i N) 16 2)) + 1) / 3) - 1) (by omega) (by omega)]
        refine mm_ca rfl ⟨⟨_, rfl⟩, rfl, Nat.le_of_ble_eq_true rfl, Nat.le_of_ble_eq_true rfl⟩ (d' := 1) (by decide) (c_G_sagaOfRecord (mm_f2 (itn dfl i N) 16 2 ((((itn dfl i N) 16 2)) + 1)) ((((((itn dfl i N) 16 2)) + 1) / 3) - 1) ⟨by omega, by omega⟩) ?_
        rintro _ _ _ ⟨rfl, rfl, rfl⟩
        refine mm_go 0 (Y := (69, [(3, .inl x), (2, .inl m), (0, .inr (some 0)), (1, .inl n)], [.inl ((itn dfl i N) 17 (((3 * ((((((itn dfl i N) 16 2)) + 1) / 3) - 1)) + 1).toNat)), .inr (some 0)], shW, (mm_f2 (itn dfl i N) 16 2 ((((itn dfl i N) 16 2)) + 1)), 0, 0)) rfl ?_
        refine mm_ca rfl ⟨⟨_, rfl⟩, rfl, Nat.le_of_ble_eq_true rfl, Nat.le_of_ble_eq_true rfl⟩ (d' := 4) (by decide) (c_D_sendIfWaiting (mm_f2 (itn dfl i N) 16 2 ((((itn dfl i N) 16 2)) + 1)) ((itn dfl i N) 17 (((3 * ((((((itn dfl i N) 16 2)) + 1) / 3) - 1)) + 1).toNat)) j7 (cS_mv j3 rfl (fun i hi => mm_f2_row (by omega))) j4 j5) ?_
        rintro _ _ _ ⟨rfl, rfl, rfl⟩
        refine mm_go 0 (Y := (72, [(3, .inl x), (2, .inl m), (0, .inr (some 0)), (1, .inl n)], [.inl (r_D_sendIfWaiting (mm_f2 (itn dfl i N) 16 2 ((((itn dfl i N) 16 2)) + 1)) ((itn dfl i N) 17 (((3 * ((((((itn dfl i N) 16 2)) + 1) / 3) - 1)) + 1).toNat)))], shW, (n_D_sendIfWaiting (mm_f2 (itn dfl i N) 16 2 ((((itn dfl i N) 16 2)) + 1)) ((itn dfl i N) 17 (((3 * ((((((itn dfl i N) 16 2)) + 1) / 3) - 1)) + 1).toNat))), 0, 0)) rfl ?_
        refine mm_go 2 (Y := (76, [(3, .inl (mm_wr (x + 1))), (2, .inl m), (0, .inr (some 0)), (1, .inl n)], [], shW, (n_D_sendIfWaiting (mm_f2 (itn dfl i N) 16 2 ((((itn dfl i N) 16 2)) + 1)) ((itn dfl i N) 17 (((3 * ((((((itn dfl i N) 16 2)) + 1) / 3) - 1)) + 1).toNat))), 0, 0)) rfl ?_
        rw [mm_wr_id (z := x + 1) (by omega) (by omega)]
        refine mm_go 1 (Y := (26, [(3, .inl (x + 1)), (2, .inl m), (0, .inr (some 0)), (1, .inl n)], [], shW, (n_D_sendIfWaiting (mm_f2 (itn dfl i N) 16 2 ((((itn dfl i N) 16 2)) + 1)) ((itn dfl i N) 17 (((3 * ((((((itn dfl i N) 16 2)) + 1) / 3) - 1)) + 1).toNat))), 0, 0)) rfl ?_
        have e9 : (n_D_sendIfWaiting (mm_f2 (itn dfl i N) 16 2 ((((itn dfl i N) 16 2)) + 1)) ((itn dfl i N) 17 (((3 * ((((((itn dfl i N) 16 2)) + 1) / 3) - 1)) + 1).toNat))) = itn dfl (i + 1) N := (dfl_p (i : Int) h2).symm
        rw [e9]
        exact ih (i + 1) _ (by omega) (by omega)
      · skip
        refine mm_go 1 (Y := (76, [(3, .inl (mm_wr (x + 1))), (2, .inl m), (0, .inr (some 0)), (1, .inl n)], [], shW, (mm_f2 (itn dfl i N) 16 2 ((((itn dfl i N) 16 2)) + 1)), 0, 0)) rfl ?_
        rw [mm_wr_id (z := x + 1) (by omega) (by omega)]
        refine mm_go 1 (Y := (26, [(3, .inl (x + 1)), (2, .inl m), (0, .inr (some 0)), (1, .inl n)], [], shW, (mm_f2 (itn dfl i N) 16 2 ((((itn dfl i N) 16 2)) + 1)), 0, 0)) rfl ?_
        have e9 : (mm_f2 (itn dfl i N) 16 2 ((((itn dfl i N) 16 2)) + 1)) = itn dfl (i + 1) N := (dfl_n (i : Int) h2).symm
        rw [e9]
        exact ih (i + 1) _ (by omega) (by omega)
    · skip
      exact absurd h1 (by omega)
theorem c_D_flush {L : Nat} {xs : Nat → Int} (N : mm_N) (n : Int) (hs : 0 ≤ N 16 2 ∧ N 16 2 ≤ N 16 1 ∧ N 16 1 < 289) (c : Nat) (hc : (c : Int) = max 0 (min n (N 16 1 - N 16 2))) (hJ : ∀ i, i ≤ c → (itn dfl i N) 16 2 = N 16 2 + i ∧ (itn dfl i N) 16 1 = N 16 1 ∧ cS (itn dfl i N) ∧ cK (itn dfl i N) ∧ (0 ≤ (itn dfl i N) 14 1 ∧ (itn dfl i N) 14 1 < 25) ∧ ∀ p, 0 ≤ p → 3 * p + 3 ≤ N 16 1 → 0 ≤ (itn dfl i N) 17 ((3 * p) + 1).toNat ∧ (itn dfl i N) 17 ((3 * p) + 1).toNat < 12) : mm_Cl mm_pf mm_bd L xs mm_pr 5 22 [.inr (some 0), .inl n] shW N (fun r sh N' => r = some (.inl (c : Int)) ∧ sh = shW ∧ itn dfl c N = N') := by
  refine mm_start p_D_flush ?_
  refine mm_go 4 (Y := (6, [(0, .inr (some 0)), (1, .inl n)], [.inr (some 16), .inl n, .inl 0], shW, N, 0, 0)) rfl ?_
  refine mm_ca rfl ⟨⟨_, rfl⟩, rfl, Nat.le_of_ble_eq_true rfl, Nat.le_of_ble_eq_true rfl⟩ (d' := 1) (by decide) (c_G_size N) ?_
  rintro _ _ _ ⟨rfl, rfl, rfl⟩
  refine mm_go 0 (Y := (9, [(0, .inr (some 0)), (1, .inl n)], [.inl (N 16 1), .inl n, .inl 0], shW, N, 0, 0)) rfl ?_
  refine mm_go 2 (Y := (13, [(0, .inr (some 0)), (1, .inl n)], [.inr (some 16), .inl (N 16 1), .inl n, .inl 0], shW, N, 0, 0)) rfl ?_
  refine mm_ca rfl ⟨⟨_, rfl⟩, rfl, Nat.le_of_ble_eq_true rfl, Nat.le_of_ble_eq_true rfl⟩ (d' := 1) (by decide) (c_G_safeSize N) ?_
  rintro _ _ _ ⟨rfl, rfl, rfl⟩
  refine mm_go 0 (Y := (16, [(0, .inr (some 0)), (1, .inl n)], [.inl (N 16 2), .inl (N 16 1), .inl n, .inl 0], shW, N, 0, 0)) rfl ?_
  refine mm_go 1 (Y := (17, [(0, .inr (some 0)), (1, .inl n)], [.inl (mm_wr ((N 16 1) - (N 16 2))), .inl n, .inl 0], shW, N, 0, 0)) rfl ?_
  rw [mm_wr_id (z := (N 16 1) - (N 16 2)) (by omega) (by omega)]
  refine mm_go 5 (Y := (26, [(3, .inl 0), (2, .inl (if 0 < (if ((N 16 1) - (N 16 2)) < n then (N 16 1) - (N 16 2) else n) then (if ((N 16 1) - (N 16 2)) < n then (N 16 1) - (N 16 2) else n) else 0)), (0, .inr (some 0)), (1, .inl n)], [], shW, N, 0, 0)) rfl ?_
  exact lp_D_flush N n _ hs c hc hJ (by rw [hc]; (repeat' split) <;> omega) c 0 0 (by omega) rfl
