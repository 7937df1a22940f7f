/-! more loops -/
theorem mm_wk {L : Nat} {xs : Nat → Int} {d : Nat} {M : mm_M} {Q Q' : mm_Q} {X : mm_X} (h : mm_Wp mm_pf mm_bd L xs (mm_Cl mm_pf mm_bd L xs mm_pr d) M Q X) (hQ : ∀ r sh N, Q r sh N → Q' r sh N) : mm_Wp mm_pf mm_bd L xs (mm_Cl mm_pf mm_bd L xs mm_pr d) M Q' X := mm_Wp_mono mm_pf mm_bd L xs (mm_Cl_mono mm_pf mm_bd L xs mm_pr d) hQ h
def mrs (N : mm_N) (d : Int) : mm_N := mm_f2 (mm_f2 (mm_f2 N 37 d.toNat 1) 31 8 (N 31 8 - (N 31 8) % 3)) 31 9 (N 31 8 - (N 31 8) % 3)
theorem sg_b {N : mm_N} (hw : 0 ≤ N 31 8 ∧ N 31 8 < 289) : (r_M_sagas N).toNat < 1000 := by
  have h := lg_cn_0 (N 38) (N 31 8 / 3).toNat
  have e : r_M_sagas N = lg_cn (N 38) (N 31 8 / 3).toNat := rfl
  omega
theorem sg_tn (N : mm_N) : r_M_sagas N = ((r_M_sagas N).toNat : Int) := by
  have h := lg_cn_0 (N 38) (N 31 8 / 3).toNat
  have e : r_M_sagas N = lg_cn (N 38) (N 31 8 / 3).toNat := rfl
  omega
theorem lp_M_restart {L : Nat} {xs : Nat → Int} (N : mm_N) (d : Int) (n : Int) (c : Nat) (hcb : c < 1000) (hn : n = (c : Int)) (hw : 0 ≤ N 31 8 ∧ N 31 8 < 289) (hJ : ∀ i, i ≤ c → (itn msd i N) 31 8 = N 31 8 ∧ mV (itn msd i N) ∧ 0 ≤ (itn msd i N) 31 10 ∧ (itn msd i N) 31 10 < 25) : ∀ (k i : Nat) (x : Int), i + k = c → x = (i : Int) → mm_Wp mm_pf mm_bd L xs (mm_Cl mm_pf mm_bd L xs mm_pr 3) m_M_restart (fun r sh N' => r = some (.inl 1) ∧ sh = shW ∧ itn msd c N = N') (62, [(3, .inl x), (2, .inl n), (0, .inr (some 31)), (1, .inl d)], [], shW, (itn msd i N), 0, 0) := by
  intro k
  induction k with
  | zero =>
    intro i x hi e0
    refine mm_go 3 (Y := (if x < n then 67 else 78, [(3, .inl x), (2, .inl n), (0, .inr (some 31)), (1, .inl d)], [], shW, (itn msd i N), 0, 0)) rfl ?_
    refine mm_if (fun h1 => ?_) (fun h1 => ?_)
    · skip
      exact absurd h1 (by omega)
    · skip
      refine mm_go 1 (Y := (79, [(3, .inl x), (2, .inl n), (0, .inr (some 31)), (1, .inl d)], [.inl 1], shW, (itn msd i N), 0, 0)) rfl ?_
      exact mm_rt rfl ⟨rfl, Or.inr ⟨rfl, Or.inr rfl⟩⟩ ⟨rfl, rfl, by rw [show i = c by omega]⟩
  | succ k ih =>
    intro i x hi e0
    have hc := lg_cn_0 (N 38) 0
    obtain ⟨j2, j3, j4, j5⟩ := hJ i (by omega)
    refine mm_go 3 (Y := (if x < n then 67 else 78, [(3, .inl x), (2, .inl n), (0, .inr (some 31)), (1, .inl d)], [], shW, (itn msd i N), 0, 0)) rfl ?_
    refine mm_if (fun h1 => ?_) (fun h1 => ?_)
    · skip
      refine mm_go 2 (Y := (69, [(3, .inl x), (2, .inl n), (0, .inr (some 31)), (1, .inl d)], [.inl x, .inr (some 31)], shW, (itn msd i N), 0, 0)) rfl ?_
      refine mm_ca rfl ⟨⟨_, rfl⟩, rfl, Nat.le_of_ble_eq_true rfl, Nat.le_of_ble_eq_true rfl⟩ (d' := 3) (by decide) (c_M_sendNext (itn msd i N) x ⟨by omega, by omega⟩ j3 ⟨j4, j5⟩) ?_
      rintro _ _ _ ⟨rfl, rfl, rfl⟩
      refine mm_go 0 (Y := (72, [(3, .inl x), (2, .inl n), (0, .inr (some 31)), (1, .inl d)], [], shW, (n_M_sendNext (itn msd i N) x), 0, 0)) rfl ?_
      refine mm_go 1 (Y := (75, [(3, .inl (mm_wr (x + 1))), (2, .inl n), (0, .inr (some 31)), (1, .inl d)], [], shW, (n_M_sendNext (itn msd i N) x), 0, 0)) rfl ?_
      rw [mm_wr_id (z := x + 1) (by omega) (by omega)]
      refine mm_go 1 (Y := (62, [(3, .inl (x + 1)), (2, .inl n), (0, .inr (some 31)), (1, .inl d)], [], shW, (n_M_sendNext (itn msd i N) x), 0, 0)) rfl ?_
      have e9 : (n_M_sendNext (itn msd i N) x) = itn msd (i + 1) N := by rw [e0]; rfl
      rw [e9]
      exact ih (i + 1) _ (by omega) (by omega)
    · skip
      exact absurd h1 (by omega)
def r_M_restart (N : mm_N) (d : Int) : Int := if d < 0 then 0 else (if 2 < d then 0 else (if (N 37 (d.toNat)) = 0 then 1 else 0))
def n_M_restart (N : mm_N) (d : Int) : mm_N := if d < 0 then N else (if 2 < d then N else (if (N 37 (d.toNat)) = 0 then (if d = 2 then (itn msd (r_M_sagas (mrs N d)).toNat (mrs N d)) else (mm_f2 N 37 (d.toNat) 1)) else N))
theorem c_M_restart {L : Nat} {xs : Nat → Int} (N : mm_N) (d : Int) (hw : 0 ≤ N 31 8 ∧ N 31 8 < 289) (hJ : d = 2 → N 37 d.toNat = 0 → ∀ i, i ≤ (r_M_sagas (mrs N d)).toNat → (itn msd i (mrs N d)) 31 8 = (mrs N d) 31 8 ∧ mV (itn msd i (mrs N d)) ∧ 0 ≤ (itn msd i (mrs N d)) 31 10 ∧ (itn msd i (mrs N d)) 31 10 < 25) : mm_Cl mm_pf mm_bd L xs mm_pr 4 102 [.inr (some 31), .inl d] shW N (fun r sh N' => r = some (.inl (r_M_restart N d)) ∧ sh = shW ∧ n_M_restart N d = N') := by
  refine mm_start p_M_restart ?_
  refine mm_go 2 (Y := (if d < 0 then 18 else 4, [(0, .inr (some 31)), (1, .inl d)], [], shW, N, 0, 0)) rfl ?_
  refine mm_if (fun h1 => ?_) (fun h1 => ?_)
  · skip
    refine mm_go 1 (Y := (19, [(0, .inr (some 31)), (1, .inl d)], [.inl 0], shW, N, 0, 0)) rfl ?_
    exact mm_rt rfl ⟨rfl, Or.inr ⟨rfl, (Or.inl rfl)⟩⟩ ⟨by unfold r_M_restart; rw [if_pos h1], rfl, by unfold n_M_restart; rw [if_pos h1]⟩
  · skip
    refine mm_go 3 (Y := (if 2 < d then 18 else 9, [(0, .inr (some 31)), (1, .inl d)], [], shW, N, 0, 0)) rfl ?_
    refine mm_if (fun h2 => ?_) (fun h2 => ?_)
    · skip
      refine mm_go 1 (Y := (19, [(0, .inr (some 31)), (1, .inl d)], [.inl 0], shW, N, 0, 0)) rfl ?_
      exact mm_rt rfl ⟨rfl, Or.inr ⟨rfl, (Or.inl rfl)⟩⟩ ⟨by unfold r_M_restart; rw [if_neg h1, if_pos h2], rfl, by unfold n_M_restart; rw [if_neg h1, if_pos h2]⟩
    · skip
      refine mm_go 3 (Y := (14, [(0, .inr (some 31)), (1, .inl d)], [.inl d, .inr (some 37)], shW, N, 0, 0)) rfl ?_
      refine mm_cd (Y := (15, [(0, .inr (some 31)), (1, .inl d)], [.inl (N 37 (d.toNat))], shW, N, 0, 0)) rfl ⟨by omega, by omega⟩ ?_
      refine mm_go 1 (Y := (if (N 37 (d.toNat)) = 0 then 20 else 18, [(0, .inr (some 31)), (1, .inl d)], [], shW, N, 0, 0)) rfl ?_
      refine mm_if (fun h3 => ?_) (fun h3 => ?_)
      · skip
        refine mm_go 4 (Y := (26, [(0, .inr (some 31)), (1, .inl d)], [.inl 1, .inl d, .inr (some 37)], shW, N, 0, 0)) rfl ?_
        refine mm_cd (Y := (27, [(0, .inr (some 31)), (1, .inl d)], [], shW, (mm_f2 N 37 (d.toNat) 1), 0, 0)) rfl ⟨(Or.inr rfl), ⟨by omega, by omega⟩⟩ ?_
        refine mm_go 3 (Y := (if d = 2 then 32 else 78, [(0, .inr (some 31)), (1, .inl d)], [], shW, (mm_f2 N 37 (d.toNat) 1), 0, 0)) rfl ?_
        refine mm_if (fun h4 => ?_) (fun h4 => ?_)
        · skip
          refine mm_go 6 (Y := (42, [(0, .inr (some 31)), (1, .inl d)], [.inl 3, .inl (N 31 8), .inl (N 31 8), .inr (some 31)], shW, (mm_f2 N 37 (d.toNat) 1), 0, 0)) rfl ?_
          refine mm_cd (Y := (43, [(0, .inr (some 31)), (1, .inl d)], [.inl (mm_wr ((N 31 8).tmod 3)), .inl (N 31 8), .inr (some 31)], shW, (mm_f2 N 37 (d.toNat) 1), 0, 0)) rfl (by decide) ?_
          rw [mm_tmod (x := N 31 8) (n := 3) (by omega) (by omega) (by omega)]
          refine mm_go 1 (Y := (44, [(0, .inr (some 31)), (1, .inl d)], [.inl (mm_wr ((N 31 8) - ((N 31 8) % 3))), .inr (some 31)], shW, (mm_f2 N 37 (d.toNat) 1), 0, 0)) rfl ?_
          rw [mm_wr_id (z := (N 31 8) - ((N 31 8) % 3)) (by omega) (by omega)]
          refine mm_go 6 (Y := (56, [(0, .inr (some 31)), (1, .inl d)], [.inr (some 31)], shW, (mm_f2 (mm_f2 (mm_f2 N 37 (d.toNat) 1) 31 8 ((N 31 8) - ((N 31 8) % 3))) 31 9 ((N 31 8) - ((N 31 8) % 3))), 0, 0)) rfl ?_
          refine mm_ca rfl ⟨⟨_, rfl⟩, rfl, Nat.le_of_ble_eq_true rfl, Nat.le_of_ble_eq_true rfl⟩ (d' := 1) (by decide) (c_M_sagas (mm_f2 (mm_f2 (mm_f2 N 37 (d.toNat) 1) 31 8 ((N 31 8) - ((N 31 8) % 3))) 31 9 ((N 31 8) - ((N 31 8) % 3)))  ⟨by show 0 ≤ N 31 8 - N 31 8 % 3; omega, by show N 31 8 - N 31 8 % 3 < 289; omega⟩) ?_
          rintro _ _ _ ⟨rfl, rfl, rfl⟩
          refine mm_go 0 (Y := (59, [(0, .inr (some 31)), (1, .inl d)], [.inl (r_M_sagas (mm_f2 (mm_f2 (mm_f2 N 37 (d.toNat) 1) 31 8 ((N 31 8) - ((N 31 8) % 3))) 31 9 ((N 31 8) - ((N 31 8) % 3))))], shW, (mm_f2 (mm_f2 (mm_f2 N 37 (d.toNat) 1) 31 8 ((N 31 8) - ((N 31 8) % 3))) 31 9 ((N 31 8) - ((N 31 8) % 3))), 0, 0)) rfl ?_
          refine mm_go 3 (Y := (62, [(3, .inl 0), (2, .inl (r_M_sagas (mm_f2 (mm_f2 (mm_f2 N 37 (d.toNat) 1) 31 8 ((N 31 8) - ((N 31 8) % 3))) 31 9 ((N 31 8) - ((N 31 8) % 3))))), (0, .inr (some 31)), (1, .inl d)], [], shW, (mm_f2 (mm_f2 (mm_f2 N 37 (d.toNat) 1) 31 8 ((N 31 8) - ((N 31 8) % 3))) 31 9 ((N 31 8) - ((N 31 8) % 3))), 0, 0)) rfl ?_
          refine mm_wk (lp_M_restart (mrs N d) d _ (r_M_sagas (mrs N d)).toNat (sg_b ⟨by show 0 ≤ N 31 8 - N 31 8 % 3; omega, by show N 31 8 - N 31 8 % 3 < 289; omega⟩) (sg_tn _) ⟨by show 0 ≤ N 31 8 - N 31 8 % 3; omega, by show N 31 8 - N 31 8 % 3 < 289; omega⟩ (hJ (by assumption) (by assumption)) (r_M_sagas (mrs N d)).toNat 0 0 (by omega) rfl) ?_
          rintro _ _ _ ⟨rfl, rfl, rfl⟩
          exact ⟨by unfold r_M_restart; rw [if_neg h1, if_neg h2, if_pos h3], rfl, by unfold n_M_restart; rw [if_neg h1, if_neg h2, if_pos h3, if_pos h4]⟩
        · skip
          refine mm_go 1 (Y := (79, [(0, .inr (some 31)), (1, .inl d)], [.inl 1], shW, (mm_f2 N 37 (d.toNat) 1), 0, 0)) rfl ?_
          exact mm_rt rfl ⟨rfl, Or.inr ⟨rfl, (Or.inr rfl)⟩⟩ ⟨by unfold r_M_restart; rw [if_neg h1, if_neg h2, if_pos h3], rfl, by unfold n_M_restart; rw [if_neg h1, if_neg h2, if_pos h3, if_neg h4]⟩
      · skip
        refine mm_go 1 (Y := (19, [(0, .inr (some 31)), (1, .inl d)], [.inl 0], shW, N, 0, 0)) rfl ?_
        exact mm_rt rfl ⟨rfl, Or.inr ⟨rfl, (Or.inl rfl)⟩⟩ ⟨by unfold r_M_restart; rw [if_neg h1, if_neg h2, if_neg h3], rfl, by unfold n_M_restart; rw [if_neg h1, if_neg h2, if_neg h3]⟩
def cA (N : mm_N) (d : Int) : Nat → Int
  | 0 => 0
  | i + 1 => if N 43 i = 0 then cA N d i else (if r_M_nodeOf N ((i : Int) / 8) (((i : Int) % 8) / 2) = d then cA N d i + 1 else cA N d i)
theorem cA_0 (N : mm_N) (d : Int) : ∀ i : Nat, 0 ≤ cA N d i ∧ cA N d i ≤ i
  | 0 => by simp [cA]
  | i + 1 => by
    have := cA_0 N d i
    unfold cA
    split
    · omega
    · split <;> omega
theorem rd_rd {N : mm_N} {a b c d e a2 b2 c2 d2 e2 : Int} : rd (rd N a b c d e) a2 b2 c2 d2 e2 = rd N a2 b2 c2 d2 e2 := by
  have h : rdrow (rd N a b c d e 31) a2 b2 c2 d2 e2 = rdrow (N 31) a2 b2 c2 d2 e2 := by
    have : rd N a b c d e 31 = rdrow (N 31) a b c d e := by unfold rd; rw [mm_f0_self]
    rw [this]
    funext j
    unfold rdrow
    by_cases h16 : j = 16
    · subst h16; rfl
    · rw [bq_ne h16]
      by_cases h17 : j = 17
      · subst h17; rfl
      · rw [bq_ne h17]
        by_cases h18 : j = 18
        · subst h18; rfl
        · rw [bq_ne h18]
          by_cases h19 : j = 19
          · subst h19; rfl
          · rw [bq_ne h19]
            by_cases h20 : j = 20
            · subst h20; rfl
            · rw [bq_ne h20]; rfl
  unfold rd at h ⊢
  rw [h, f0_f0]
def r_M_answered (N : mm_N) (d : Int) : Int := if d < 0 then -1 else (if 1 < d then -1 else cA N d 96)
theorem lp_M_answered {L : Nat} {xs : Nat → Int} (N : mm_N) (d : Int) (hw : 0 ≤ N 31 8 ∧ N 31 8 < 289) (ha : ∀ j : Nat, j < 96 → ¬ N 43 j = 0 → 0 ≤ kq N ((j : Int) / 8) ∧ kq N ((j : Int) / 8) < 4) : ∀ (k i : Nat) (x : Int) (n : Int) (a : Int) (b : Int) (c : Int) (e : Int) (f : Int), i + k = 96 → x = (i : Int) → n = cA N d i → mm_Wp mm_pf mm_bd L xs (mm_Cl mm_pf mm_bd L xs mm_pr 2) m_M_answered (fun r sh N' => r = some (.inl (cA N d 96)) ∧ sh = shW ∧ ∃ a b c e f, rd N a b c e f = N') (15, [(3, .inl x), (2, .inl n), (0, .inr (some 31)), (1, .inl d)], [], shW, (rd N a b c e f), 0, 0) := by
  intro k
  induction k with
  | zero =>
    intro i x n a b c e f hi e0 e1
    refine mm_go 3 (Y := (if x < 96 then 21 else 57, [(3, .inl x), (2, .inl n), (0, .inr (some 31)), (1, .inl d)], [], shW, (rd N a b c e f), 0, 0)) rfl ?_
    refine mm_if (fun h1 => ?_) (fun h1 => ?_)
    · skip
      exact absurd h1 (by omega)
    · skip
      refine mm_go 1 (Y := (58, [(3, .inl x), (2, .inl n), (0, .inr (some 31)), (1, .inl d)], [.inl n], shW, (rd N a b c e f), 0, 0)) rfl ?_
      exact mm_rt rfl ⟨rfl, Or.inl rfl⟩ ⟨by rw [e1, show i = 96 by omega], rfl, a, b, c, e, f, rfl⟩
  | succ k ih =>
    intro i x n a b c e f hi e0 e1
    have q0 : x.toNat = i := by omega
    have b1 := cA_0 N d i
    have hA := ha i (by omega)
    refine mm_go 3 (Y := (if x < 96 then 21 else 57, [(3, .inl x), (2, .inl n), (0, .inr (some 31)), (1, .inl d)], [], shW, (rd N a b c e f), 0, 0)) rfl ?_
    refine mm_if (fun h1 => ?_) (fun h1 => ?_)
    · skip
      refine mm_go 3 (Y := (26, [(3, .inl x), (2, .inl n), (0, .inr (some 31)), (1, .inl d)], [.inl x, .inr (some 43)], shW, (rd N a b c e f), 0, 0)) rfl ?_
      refine mm_cd (Y := (27, [(3, .inl x), (2, .inl n), (0, .inr (some 31)), (1, .inl d)], [.inl (N 43 (x.toNat))], shW, (rd N a b c e f), 0, 0)) rfl ⟨by omega, by omega⟩ ?_
      refine mm_go 1 (Y := (if (N 43 (x.toNat)) = 0 then 51 else 30, [(3, .inl x), (2, .inl n), (0, .inr (some 31)), (1, .inl d)], [], shW, (rd N a b c e f), 0, 0)) rfl ?_
      refine mm_if (fun h2 => ?_) (fun h2 => ?_)
      · skip
        refine mm_go 1 (Y := (54, [(3, .inl (mm_wr (x + 1))), (2, .inl n), (0, .inr (some 31)), (1, .inl d)], [], shW, (rd N a b c e f), 0, 0)) rfl ?_
        rw [mm_wr_id (z := x + 1) (by omega) (by omega)]
        refine mm_go 1 (Y := (15, [(3, .inl (x + 1)), (2, .inl n), (0, .inr (some 31)), (1, .inl d)], [], shW, (rd N a b c e f), 0, 0)) rfl ?_
        refine ih (i + 1) _ _ _ _ _ _ _ (by omega) (by omega) ?_
        rw [q0] at h2
        rw [cA, if_pos h2, e1]
      · skip
        rw [q0] at h2
        have hA := hA h2
        have hA2 : 0 ≤ kq N (x / 8) ∧ kq N (x / 8) < 4 := by rw [e0]; exact hA
        rw [← q0] at h2
        refine mm_go 3 (Y := (34, [(3, .inl x), (2, .inl n), (0, .inr (some 31)), (1, .inl d)], [.inl 8, .inl x, .inr (some 31)], shW, (rd N a b c e f), 0, 0)) rfl ?_
        refine mm_cd (Y := (35, [(3, .inl x), (2, .inl n), (0, .inr (some 31)), (1, .inl d)], [.inl (mm_wr (x.tdiv 8)), .inr (some 31)], shW, (rd N a b c e f), 0, 0)) rfl (by decide) ?_
        rw [mm_tdiv (x := x) (n := 8) (by omega) (by omega) (by omega)]
        refine mm_go 2 (Y := (38, [(3, .inl x), (2, .inl n), (0, .inr (some 31)), (1, .inl d)], [.inl 8, .inl x, .inl (x / 8), .inr (some 31)], shW, (rd N a b c e f), 0, 0)) rfl ?_
        refine mm_cd (Y := (39, [(3, .inl x), (2, .inl n), (0, .inr (some 31)), (1, .inl d)], [.inl (mm_wr (x.tmod 8)), .inl (x / 8), .inr (some 31)], shW, (rd N a b c e f), 0, 0)) rfl (by decide) ?_
        rw [mm_tmod (x := x) (n := 8) (by omega) (by omega) (by omega)]
        refine mm_go 1 (Y := (40, [(3, .inl x), (2, .inl n), (0, .inr (some 31)), (1, .inl d)], [.inl 2, .inl (x % 8), .inl (x / 8), .inr (some 31)], shW, (rd N a b c e f), 0, 0)) rfl ?_
        refine mm_cd (Y := (41, [(3, .inl x), (2, .inl n), (0, .inr (some 31)), (1, .inl d)], [.inl (mm_wr ((x % 8).tdiv 2)), .inl (x / 8), .inr (some 31)], shW, (rd N a b c e f), 0, 0)) rfl (by decide) ?_
        rw [mm_tdiv (x := x % 8) (n := 2) (by omega) (by omega) (by omega)]
        refine mm_ca rfl ⟨⟨_, rfl⟩, rfl, Nat.le_of_ble_eq_true rfl, Nat.le_of_ble_eq_true rfl⟩ (d' := 2) (by decide) (c_M_nodeOf (rd N a b c e f) (x / 8) ((x % 8) / 2) hw hA2 ⟨by omega, by omega⟩) ?_
        rintro _ _ _ ⟨rfl, rfl, rfl⟩
        refine mm_go 0 (Y := (44, [(3, .inl x), (2, .inl n), (0, .inr (some 31)), (1, .inl d)], [.inl (r_M_nodeOf (rd N a b c e f) (x / 8) ((x % 8) / 2))], shW, (rd (rd N a b c e f) (kq (rd N a b c e f) (x / 8)) (dq (rd N a b c e f) (x / 8)) (uq (rd N a b c e f) (x / 8)) (rq (rd N a b c e f) (x / 8)) (zq (rd N a b c e f) (x / 8))), 0, 0)) rfl ?_
        refine mm_go 2 (Y := (if (r_M_nodeOf (rd N a b c e f) (x / 8) ((x % 8) / 2)) = d then 48 else 51, [(3, .inl x), (2, .inl n), (0, .inr (some 31)), (1, .inl d)], [], shW, (rd (rd N a b c e f) (kq (rd N a b c e f) (x / 8)) (dq (rd N a b c e f) (x / 8)) (uq (rd N a b c e f) (x / 8)) (rq (rd N a b c e f) (x / 8)) (zq (rd N a b c e f) (x / 8))), 0, 0)) rfl ?_
        refine mm_if (fun h3 => ?_) (fun h3 => ?_)
        · skip
          refine mm_go 1 (Y := (51, [(2, .inl (mm_wr (n + 1))), (3, .inl x), (0, .inr (some 31)), (1, .inl d)], [], shW, (rd (rd N a b c e f) (kq (rd N a b c e f) (x / 8)) (dq (rd N a b c e f) (x / 8)) (uq (rd N a b c e f) (x / 8)) (rq (rd N a b c e f) (x / 8)) (zq (rd N a b c e f) (x / 8))), 0, 0)) rfl ?_
          rw [mm_wr_id (z := n + 1) (by omega) (by omega)]
          refine mm_go 1 (Y := (54, [(3, .inl (mm_wr (x + 1))), (2, .inl (n + 1)), (0, .inr (some 31)), (1, .inl d)], [], shW, (rd (rd N a b c e f) (kq (rd N a b c e f) (x / 8)) (dq (rd N a b c e f) (x / 8)) (uq (rd N a b c e f) (x / 8)) (rq (rd N a b c e f) (x / 8)) (zq (rd N a b c e f) (x / 8))), 0, 0)) rfl ?_
          rw [mm_wr_id (z := x + 1) (by omega) (by omega)]
          refine mm_go 1 (Y := (15, [(3, .inl (x + 1)), (2, .inl (n + 1)), (0, .inr (some 31)), (1, .inl d)], [], shW, (rd (rd N a b c e f) (kq (rd N a b c e f) (x / 8)) (dq (rd N a b c e f) (x / 8)) (uq (rd N a b c e f) (x / 8)) (rq (rd N a b c e f) (x / 8)) (zq (rd N a b c e f) (x / 8))), 0, 0)) rfl ?_
          rw [rd_rd]
          refine ih (i + 1) _ _ _ _ _ _ _ (by omega) (by omega) ?_
          rw [q0] at h2
          have h3 : r_M_nodeOf N (x / 8) ((x % 8) / 2) = d := h3
          rw [e0] at h3
          rw [cA, if_neg h2, if_pos h3, e1]
        · skip
          refine mm_go 1 (Y := (54, [(3, .inl (mm_wr (x + 1))), (2, .inl n), (0, .inr (some 31)), (1, .inl d)], [], shW, (rd (rd N a b c e f) (kq (rd N a b c e f) (x / 8)) (dq (rd N a b c e f) (x / 8)) (uq (rd N a b c e f) (x / 8)) (rq (rd N a b c e f) (x / 8)) (zq (rd N a b c e f) (x / 8))), 0, 0)) rfl ?_
          rw [mm_wr_id (z := x + 1) (by omega) (by omega)]
          refine mm_go 1 (Y := (15, [(3, .inl (x + 1)), (2, .inl n), (0, .inr (some 31)), (1, .inl d)], [], shW, (rd (rd N a b c e f) (kq (rd N a b c e f) (x / 8)) (dq (rd N a b c e f) (x / 8)) (uq (rd N a b c e f) (x / 8)) (rq (rd N a b c e f) (x / 8)) (zq (rd N a b c e f) (x / 8))), 0, 0)) rfl ?_
          rw [rd_rd]
          refine ih (i + 1) _ _ _ _ _ _ _ (by omega) (by omega) ?_
          rw [q0] at h2
          have h3 : ¬ r_M_nodeOf N (x / 8) ((x % 8) / 2) = d := h3
          rw [e0] at h3
          rw [cA, if_neg h2, if_neg h3, e1]
    · skip
      exact absurd h1 (by omega)
theorem c_M_answered {L : Nat} {xs : Nat → Int} (N : mm_N) (d : Int) (hw : 0 ≤ N 31 8 ∧ N 31 8 < 289) (ha : ∀ j : Nat, j < 96 → ¬ N 43 j = 0 → 0 ≤ kq N ((j : Int) / 8) ∧ kq N ((j : Int) / 8) < 4) : mm_Cl mm_pf mm_bd L xs mm_pr 3 110 [.inr (some 31), .inl d] shW N (fun r sh N' => r = some (.inl (r_M_answered N d)) ∧ sh = shW ∧ ∃ a b c e f, rd N a b c e f = N') := by
  refine mm_start p_M_answered ?_
  refine mm_go 2 (Y := (if d < 0 then 9 else 4, [(0, .inr (some 31)), (1, .inl d)], [], shW, N, 0, 0)) rfl ?_
  refine mm_if (fun h1 => ?_) (fun h1 => ?_)
  · skip
    refine mm_go 1 (Y := (10, [(0, .inr (some 31)), (1, .inl d)], [.inl (-1)], shW, N, 0, 0)) rfl ?_
    exact mm_rt rfl ⟨rfl, Or.inl rfl⟩ ⟨by unfold r_M_answered; first | rw [if_pos h1] | rw [if_neg h1, if_pos h2], rfl, _, _, _, _, _, rd_id N⟩
  · skip
    refine mm_go 3 (Y := (if 1 < d then 9 else 11, [(0, .inr (some 31)), (1, .inl d)], [], shW, N, 0, 0)) rfl ?_
    refine mm_if (fun h2 => ?_) (fun h2 => ?_)
    · skip
      refine mm_go 1 (Y := (10, [(0, .inr (some 31)), (1, .inl d)], [.inl (-1)], shW, N, 0, 0)) rfl ?_
      exact mm_rt rfl ⟨rfl, Or.inl rfl⟩ ⟨by unfold r_M_answered; first | rw [if_pos h1] | rw [if_neg h1, if_pos h2], rfl, _, _, _, _, _, rd_id N⟩
    · skip
      refine mm_go 4 (Y := (15, [(3, .inl 0), (2, .inl 0), (0, .inr (some 31)), (1, .inl d)], [], shW, N, 0, 0)) rfl ?_
      have hlp := lp_M_answered (L := L) (xs := xs) N d hw ha 96 0 0 0 (N 31 16) (N 31 17) (N 31 18) (N 31 19) (N 31 20) (by omega) rfl rfl
      rw [rd_id] at hlp
      refine mm_wk hlp ?_
      rintro _ _ _ ⟨rfl, rfl, h9⟩
      exact ⟨by unfold r_M_answered; rw [if_neg h1, if_neg h2], rfl, h9⟩
