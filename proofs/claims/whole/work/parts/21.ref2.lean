/-! the reference reads its log, and sends -/
theorem lg_d_0 (f : Nat → Int) (s : Int) : ∀ m : Nat, 0 ≤ lg_d f s m ∧ lg_d f s m ≤ m
  | 0 => by simp [lg_d]
  | m + 1 => by
    have := lg_d_0 f s m
    unfold lg_d
    split
    · split <;> omega
    · omega
theorem lg_u_0 (f : Nat → Int) (s : Int) : ∀ m : Nat, 0 ≤ lg_u f s m ∧ lg_u f s m ≤ m
  | 0 => by simp [lg_u]
  | m + 1 => by
    have := lg_u_0 f s m
    unfold lg_u
    split
    · split <;> omega
    · omega
theorem lg_r_0 (f : Nat → Int) (s : Int) : ∀ m : Nat, lg_r f s m = 0 ∨ lg_r f s m = 1
  | 0 => Or.inl rfl
  | m + 1 => by
    have := lg_r_0 f s m
    unfold lg_r
    split
    · split
      · split
        · exact Or.inr rfl
        · exact Or.inl rfl
      · exact Or.inr rfl
    · exact this
theorem rd_0 (N : mm_N) : mm_f2 (mm_f2 (mm_f2 (mm_f2 (mm_f2 N 31 16 (-1)) 31 17 0) 31 18 0) 31 19 0) 31 20 0 = rd N (-1) 0 0 0 0 := by
  conv => lhs; rw [← rd_id N]
  rw [rd_16, rd_17, rd_18, rd_19, rd_20]
def kq (N : mm_N) (s : Int) : Int := lg_k (N 38) s (N 31 8 / 3).toNat
def dq (N : mm_N) (s : Int) : Int := lg_d (N 38) s (N 31 8 / 3).toNat
def uq (N : mm_N) (s : Int) : Int := lg_u (N 38) s (N 31 8 / 3).toNat
def rq (N : mm_N) (s : Int) : Int := lg_r (N 38) s (N 31 8 / 3).toNat
def zq (N : mm_N) (s : Int) : Int := lg_e (N 38) s (N 31 8 / 3).toNat
set_option maxHeartbeats 4000000 in
theorem lp_M_read {L : Nat} {xs : Nat → Int} (N : mm_N) (s : Int) (hw : 0 ≤ N 31 8 ∧ N 31 8 < 289) : ∀ (k i : Nat) (x : Int) (a : Int) (b : Int) (c : Int) (d : Int) (e : Int), i + k = (N 31 8 / 3).toNat → x = 3 * (i : Int) → a = lg_k (N 38) s i → b = lg_d (N 38) s i → c = lg_u (N 38) s i → d = lg_r (N 38) s i → e = lg_e (N 38) s i → mm_Wp mm_pf mm_bd L xs (mm_Cl mm_pf mm_bd L xs mm_pr 0) m_M_read (fun r sh N' => r = none ∧ sh = shW ∧ rd N (kq N s) (dq N s) (uq N s) (rq N s) (zq N s) = N') (27, [(2, .inl x), (0, .inr (some 31)), (1, .inl s)], [], shW, (rd N a b c d e), 0, 0) := by
  intro k
  induction k with
  | zero =>
    intro i x a b c d e hi e0 e1 e2 e3 e4 e5
    refine mm_go 3 (Y := (30, [(2, .inl x), (0, .inr (some 31)), (1, .inl s)], [.inl (mm_wr (x + 3))], shW, (rd N a b c d e), 0, 0)) rfl ?_
    rw [mm_wr_id (z := x + 3) (by omega) (by omega)]
    refine mm_go 3 (Y := (if (N 31 8) < (x + 3) then 171 else 37, [(2, .inl x), (0, .inr (some 31)), (1, .inl s)], [], shW, (rd N a b c d e), 0, 0)) rfl ?_
    refine mm_if (fun h1 => ?_) (fun h1 => ?_)
    · skip
      exact mm_rt rfl rfl ⟨rfl, rfl, by rw [e1, e2, e3, e4, e5, show i = (N 31 8 / 3).toNat by omega]; rfl⟩
    · skip
      exact absurd h1 (by omega)
  | succ k ih =>
    intro i x a b c d e hi e0 e1 e2 e3 e4 e5
    have q0 : x.toNat = 3 * i := by omega
    have q1 : (x + 1).toNat = 3 * i + 1 := by omega
    have q2 : (x + 2).toNat = 3 * i + 2 := by omega
    have b1 := lg_d_0 (N 38) s i
    have b2 := lg_u_0 (N 38) s i
    have b3 : b ≤ 100 := by omega
    have b4 : c ≤ 100 := by omega
    refine mm_go 3 (Y := (30, [(2, .inl x), (0, .inr (some 31)), (1, .inl s)], [.inl (mm_wr (x + 3))], shW, (rd N a b c d e), 0, 0)) rfl ?_
    rw [mm_wr_id (z := x + 3) (by omega) (by omega)]
    refine mm_go 3 (Y := (if (N 31 8) < (x + 3) then 171 else 37, [(2, .inl x), (0, .inr (some 31)), (1, .inl s)], [], shW, (rd N a b c d e), 0, 0)) rfl ?_
    refine mm_if (fun h1 => ?_) (fun h1 => ?_)
    · skip
      exact absurd h1 (by omega)
    · skip
      refine mm_go 5 (Y := (44, [(2, .inl x), (0, .inr (some 31)), (1, .inl s)], [.inl (mm_wr (x + 1)), .inr (some 38)], shW, (rd N a b c d e), 0, 0)) rfl ?_
      rw [mm_wr_id (z := x + 1) (by omega) (by omega)]
      refine mm_cd (Y := (45, [(2, .inl x), (0, .inr (some 31)), (1, .inl s)], [.inl (N 38 ((x + 1).toNat))], shW, (rd N a b c d e), 0, 0)) rfl ⟨by omega, by omega⟩ ?_
      refine mm_go 2 (Y := (if (N 38 ((x + 1).toNat)) = s then 49 else 165, [(2, .inl x), (0, .inr (some 31)), (1, .inl s)], [], shW, (rd N a b c d e), 0, 0)) rfl ?_
      refine mm_if (fun h2 => ?_) (fun h2 => ?_)
      · skip
        refine mm_go 4 (Y := (53, [(2, .inl x), (0, .inr (some 31)), (1, .inl s)], [.inl (mm_wr (x + 3)), .inr (some 31)], shW, (rd N a b c d e), 0, 0)) rfl ?_
        rw [mm_wr_id (z := x + 3) (by omega) (by omega)]
        refine mm_go 5 (Y := (62, [(2, .inl x), (0, .inr (some 31)), (1, .inl s)], [.inl x, .inr (some 38), .inr (some 31)], shW, (mm_f2 (rd N a b c d e) 31 20 (x + 3)), 0, 0)) rfl ?_
        refine mm_cd (Y := (63, [(2, .inl x), (0, .inr (some 31)), (1, .inl s)], [.inl (N 38 (x.toNat)), .inr (some 31)], shW, (mm_f2 (rd N a b c d e) 31 20 (x + 3)), 0, 0)) rfl ⟨by omega, by omega⟩ ?_
        refine mm_go 2 (Y := (if (N 38 (x.toNat)) = 1 then 67 else 78, [(2, .inl x), (0, .inr (some 31)), (1, .inl s)], [.inr (some 31)], shW, (mm_f2 (rd N a b c d e) 31 20 (x + 3)), 0, 0)) rfl ?_
        refine mm_if (fun h3 => ?_) (fun h3 => ?_)
        · skip
          refine mm_go 5 (Y := (74, [(2, .inl x), (0, .inr (some 31)), (1, .inl s)], [.inl (mm_wr (x + 2)), .inr (some 38), .inr (some 31)], shW, (mm_f2 (rd N a b c d e) 31 20 (x + 3)), 0, 0)) rfl ?_
          rw [mm_wr_id (z := x + 2) (by omega) (by omega)]
          refine mm_cd (Y := (75, [(2, .inl x), (0, .inr (some 31)), (1, .inl s)], [.inl (N 38 ((x + 2).toNat)), .inr (some 31)], shW, (mm_f2 (rd N a b c d e) 31 20 (x + 3)), 0, 0)) rfl ⟨by omega, by omega⟩ ?_
          refine mm_go 6 (Y := (91, [(2, .inl x), (0, .inr (some 31)), (1, .inl s)], [.inl x, .inr (some 38), .inr (some 31)], shW, (mm_f2 (mm_f2 (rd N a b c d e) 31 20 (x + 3)) 31 16 (N 38 ((x + 2).toNat))), 0, 0)) rfl ?_
          refine mm_cd (Y := (92, [(2, .inl x), (0, .inr (some 31)), (1, .inl s)], [.inl (N 38 (x.toNat)), .inr (some 31)], shW, (mm_f2 (mm_f2 (rd N a b c d e) 31 20 (x + 3)) 31 16 (N 38 ((x + 2).toNat))), 0, 0)) rfl ⟨by omega, by omega⟩ ?_
          refine mm_go 2 (Y := (if (N 38 (x.toNat)) = 2 then 96 else 105, [(2, .inl x), (0, .inr (some 31)), (1, .inl s)], [.inr (some 31)], shW, (mm_f2 (mm_f2 (rd N a b c d e) 31 20 (x + 3)) 31 16 (N 38 ((x + 2).toNat))), 0, 0)) rfl ?_
          refine mm_if (fun h4 => ?_) (fun h4 => ?_)
          · skip
            refine mm_go 4 (Y := (102, [(2, .inl x), (0, .inr (some 31)), (1, .inl s)], [.inl (mm_wr (b + 1)), .inr (some 31)], shW, (mm_f2 (mm_f2 (rd N a b c d e) 31 20 (x + 3)) 31 16 (N 38 ((x + 2).toNat))), 0, 0)) rfl ?_
            rw [mm_wr_id (z := b + 1) (by omega) (by omega)]
            refine mm_go 6 (Y := (if d = 0 then 120 else 130, [(2, .inl x), (0, .inr (some 31)), (1, .inl s)], [.inr (some 31)], shW, (mm_f2 (mm_f2 (mm_f2 (rd N a b c d e) 31 20 (x + 3)) 31 16 (N 38 ((x + 2).toNat))) 31 17 (b + 1)), 0, 0)) rfl ?_
            refine mm_if (fun h5 => ?_) (fun h5 => ?_)
            · skip
              refine mm_go 3 (Y := (125, [(2, .inl x), (0, .inr (some 31)), (1, .inl s)], [.inl x, .inr (some 38), .inr (some 31)], shW, (mm_f2 (mm_f2 (mm_f2 (rd N a b c d e) 31 20 (x + 3)) 31 16 (N 38 ((x + 2).toNat))) 31 17 (b + 1)), 0, 0)) rfl ?_
              refine mm_cd (Y := (126, [(2, .inl x), (0, .inr (some 31)), (1, .inl s)], [.inl (N 38 (x.toNat)), .inr (some 31)], shW, (mm_f2 (mm_f2 (mm_f2 (rd N a b c d e) 31 20 (x + 3)) 31 16 (N 38 ((x + 2).toNat))) 31 17 (b + 1)), 0, 0)) rfl ⟨by omega, by omega⟩ ?_
              refine mm_go 2 (Y := (if (N 38 (x.toNat)) = 3 then 130 else 134, [(2, .inl x), (0, .inr (some 31)), (1, .inl s)], [.inr (some 31)], shW, (mm_f2 (mm_f2 (mm_f2 (rd N a b c d e) 31 20 (x + 3)) 31 16 (N 38 ((x + 2).toNat))) 31 17 (b + 1)), 0, 0)) rfl ?_
              refine mm_if (fun h6 => ?_) (fun h6 => ?_)
              · skip
                refine mm_go 2 (Y := (135, [(2, .inl x), (0, .inr (some 31)), (1, .inl s)], [.inl 1, .inr (some 31)], shW, (mm_f2 (mm_f2 (mm_f2 (rd N a b c d e) 31 20 (x + 3)) 31 16 (N 38 ((x + 2).toNat))) 31 17 (b + 1)), 0, 0)) rfl ?_
                refine mm_cd (Y := (138, [(2, .inl x), (0, .inr (some 31)), (1, .inl s)], [], shW, (mm_f2 (mm_f2 (mm_f2 (mm_f2 (rd N a b c d e) 31 20 (x + 3)) 31 16 (N 38 ((x + 2).toNat))) 31 17 (b + 1)) 31 19 1), 0, 0)) rfl (Or.inr rfl) ?_
                refine mm_go 4 (Y := (144, [(2, .inl x), (0, .inr (some 31)), (1, .inl s)], [.inl x, .inr (some 38), .inr (some 31)], shW, (mm_f2 (mm_f2 (mm_f2 (mm_f2 (rd N a b c d e) 31 20 (x + 3)) 31 16 (N 38 ((x + 2).toNat))) 31 17 (b + 1)) 31 19 1), 0, 0)) rfl ?_
                refine mm_cd (Y := (145, [(2, .inl x), (0, .inr (some 31)), (1, .inl s)], [.inl (N 38 (x.toNat)), .inr (some 31)], shW, (mm_f2 (mm_f2 (mm_f2 (mm_f2 (rd N a b c d e) 31 20 (x + 3)) 31 16 (N 38 ((x + 2).toNat))) 31 17 (b + 1)) 31 19 1), 0, 0)) rfl ⟨by omega, by omega⟩ ?_
                refine mm_go 2 (Y := (if (N 38 (x.toNat)) = 4 then 149 else 158, [(2, .inl x), (0, .inr (some 31)), (1, .inl s)], [.inr (some 31)], shW, (mm_f2 (mm_f2 (mm_f2 (mm_f2 (rd N a b c d e) 31 20 (x + 3)) 31 16 (N 38 ((x + 2).toNat))) 31 17 (b + 1)) 31 19 1), 0, 0)) rfl ?_
                refine mm_if (fun h7 => ?_) (fun h7 => ?_)
                · skip
                  refine mm_go 4 (Y := (155, [(2, .inl x), (0, .inr (some 31)), (1, .inl s)], [.inl (mm_wr (c + 1)), .inr (some 31)], shW, (mm_f2 (mm_f2 (mm_f2 (mm_f2 (rd N a b c d e) 31 20 (x + 3)) 31 16 (N 38 ((x + 2).toNat))) 31 17 (b + 1)) 31 19 1), 0, 0)) rfl ?_
                  rw [mm_wr_id (z := c + 1) (by omega) (by omega)]
                  refine mm_go 3 (Y := (168, [(2, .inl (mm_wr (x + 3))), (0, .inr (some 31)), (1, .inl s)], [], shW, (mm_f2 (mm_f2 (mm_f2 (mm_f2 (mm_f2 (rd N a b c d e) 31 20 (x + 3)) 31 16 (N 38 ((x + 2).toNat))) 31 17 (b + 1)) 31 19 1) 31 18 (c + 1)), 0, 0)) rfl ?_
                  rw [mm_wr_id (z := x + 3) (by omega) (by omega)]
                  refine mm_go 1 (Y := (27, [(2, .inl (x + 3)), (0, .inr (some 31)), (1, .inl s)], [], shW, (mm_f2 (mm_f2 (mm_f2 (mm_f2 (mm_f2 (rd N a b c d e) 31 20 (x + 3)) 31 16 (N 38 ((x + 2).toNat))) 31 17 (b + 1)) 31 19 1) 31 18 (c + 1)), 0, 0)) rfl ?_
                  simp only [rd_16, rd_17, rd_18, rd_19, rd_20]
                  rw [q1] at h2
                  rw [q0] at h3
                  rw [q0] at h4
                  rw [q0] at h6
                  rw [q0] at h7
                  exfalso; omega
                · skip
                  refine mm_go 4 (Y := (168, [(2, .inl (mm_wr (x + 3))), (0, .inr (some 31)), (1, .inl s)], [], shW, (mm_f2 (mm_f2 (mm_f2 (mm_f2 (mm_f2 (rd N a b c d e) 31 20 (x + 3)) 31 16 (N 38 ((x + 2).toNat))) 31 17 (b + 1)) 31 19 1) 31 18 c), 0, 0)) rfl ?_
                  rw [mm_wr_id (z := x + 3) (by omega) (by omega)]
                  refine mm_go 1 (Y := (27, [(2, .inl (x + 3)), (0, .inr (some 31)), (1, .inl s)], [], shW, (mm_f2 (mm_f2 (mm_f2 (mm_f2 (mm_f2 (rd N a b c d e) 31 20 (x + 3)) 31 16 (N 38 ((x + 2).toNat))) 31 17 (b + 1)) 31 19 1) 31 18 c), 0, 0)) rfl ?_
                  simp only [rd_16, rd_17, rd_18, rd_19, rd_20]
                  rw [q1] at h2
                  rw [q0] at h3
                  rw [q0] at h4
                  rw [q0] at h6
                  rw [q0] at h7
                  exfalso; omega
              · skip
                refine mm_go 1 (Y := (135, [(2, .inl x), (0, .inr (some 31)), (1, .inl s)], [.inl 0, .inr (some 31)], shW, (mm_f2 (mm_f2 (mm_f2 (rd N a b c d e) 31 20 (x + 3)) 31 16 (N 38 ((x + 2).toNat))) 31 17 (b + 1)), 0, 0)) rfl ?_
                refine mm_cd (Y := (138, [(2, .inl x), (0, .inr (some 31)), (1, .inl s)], [], shW, (mm_f2 (mm_f2 (mm_f2 (mm_f2 (rd N a b c d e) 31 20 (x + 3)) 31 16 (N 38 ((x + 2).toNat))) 31 17 (b + 1)) 31 19 0), 0, 0)) rfl (Or.inl rfl) ?_
                refine mm_go 4 (Y := (144, [(2, .inl x), (0, .inr (some 31)), (1, .inl s)], [.inl x, .inr (some 38), .inr (some 31)], shW, (mm_f2 (mm_f2 (mm_f2 (mm_f2 (rd N a b c d e) 31 20 (x + 3)) 31 16 (N 38 ((x + 2).toNat))) 31 17 (b + 1)) 31 19 0), 0, 0)) rfl ?_
                refine mm_cd (Y := (145, [(2, .inl x), (0, .inr (some 31)), (1, .inl s)], [.inl (N 38 (x.toNat)), .inr (some 31)], shW, (mm_f2 (mm_f2 (mm_f2 (mm_f2 (rd N a b c d e) 31 20 (x + 3)) 31 16 (N 38 ((x + 2).toNat))) 31 17 (b + 1)) 31 19 0), 0, 0)) rfl ⟨by omega, by omega⟩ ?_
                refine mm_go 2 (Y := (if (N 38 (x.toNat)) = 4 then 149 else 158, [(2, .inl x), (0, .inr (some 31)), (1, .inl s)], [.inr (some 31)], shW, (mm_f2 (mm_f2 (mm_f2 (mm_f2 (rd N a b c d e) 31 20 (x + 3)) 31 16 (N 38 ((x + 2).toNat))) 31 17 (b + 1)) 31 19 0), 0, 0)) rfl ?_
                refine mm_if (fun h8 => ?_) (fun h8 => ?_)
                · skip
                  refine mm_go 4 (Y := (155, [(2, .inl x), (0, .inr (some 31)), (1, .inl s)], [.inl (mm_wr (c + 1)), .inr (some 31)], shW, (mm_f2 (mm_f2 (mm_f2 (mm_f2 (rd N a b c d e) 31 20 (x + 3)) 31 16 (N 38 ((x + 2).toNat))) 31 17 (b + 1)) 31 19 0), 0, 0)) rfl ?_
                  rw [mm_wr_id (z := c + 1) (by omega) (by omega)]
                  refine mm_go 3 (Y := (168, [(2, .inl (mm_wr (x + 3))), (0, .inr (some 31)), (1, .inl s)], [], shW, (mm_f2 (mm_f2 (mm_f2 (mm_f2 (mm_f2 (rd N a b c d e) 31 20 (x + 3)) 31 16 (N 38 ((x + 2).toNat))) 31 17 (b + 1)) 31 19 0) 31 18 (c + 1)), 0, 0)) rfl ?_
                  rw [mm_wr_id (z := x + 3) (by omega) (by omega)]
                  refine mm_go 1 (Y := (27, [(2, .inl (x + 3)), (0, .inr (some 31)), (1, .inl s)], [], shW, (mm_f2 (mm_f2 (mm_f2 (mm_f2 (mm_f2 (rd N a b c d e) 31 20 (x + 3)) 31 16 (N 38 ((x + 2).toNat))) 31 17 (b + 1)) 31 19 0) 31 18 (c + 1)), 0, 0)) rfl ?_
                  simp only [rd_16, rd_17, rd_18, rd_19, rd_20]
                  rw [q1] at h2
                  rw [q0] at h3
                  rw [q0] at h4
                  rw [q0] at h6
                  rw [q0] at h8
                  exfalso; omega
                · skip
                  refine mm_go 4 (Y := (168, [(2, .inl (mm_wr (x + 3))), (0, .inr (some 31)), (1, .inl s)], [], shW, (mm_f2 (mm_f2 (mm_f2 (mm_f2 (mm_f2 (rd N a b c d e) 31 20 (x + 3)) 31 16 (N 38 ((x + 2).toNat))) 31 17 (b + 1)) 31 19 0) 31 18 c), 0, 0)) rfl ?_
                  rw [mm_wr_id (z := x + 3) (by omega) (by omega)]
                  refine mm_go 1 (Y := (27, [(2, .inl (x + 3)), (0, .inr (some 31)), (1, .inl s)], [], shW, (mm_f2 (mm_f2 (mm_f2 (mm_f2 (mm_f2 (rd N a b c d e) 31 20 (x + 3)) 31 16 (N 38 ((x + 2).toNat))) 31 17 (b + 1)) 31 19 0) 31 18 c), 0, 0)) rfl ?_
                  simp only [rd_16, rd_17, rd_18, rd_19, rd_20]
                  rw [q1] at h2
                  rw [q0] at h3
                  rw [q0] at h4
                  rw [q0] at h6
                  rw [q0] at h8
                  exfalso; omega
            · skip
              refine mm_go 2 (Y := (135, [(2, .inl x), (0, .inr (some 31)), (1, .inl s)], [.inl 1, .inr (some 31)], shW, (mm_f2 (mm_f2 (mm_f2 (rd N a b c d e) 31 20 (x + 3)) 31 16 (N 38 ((x + 2).toNat))) 31 17 (b + 1)), 0, 0)) rfl ?_
              refine mm_cd (Y := (138, [(2, .inl x), (0, .inr (some 31)), (1, .inl s)], [], shW, (mm_f2 (mm_f2 (mm_f2 (mm_f2 (rd N a b c d e) 31 20 (x + 3)) 31 16 (N 38 ((x + 2).toNat))) 31 17 (b + 1)) 31 19 1), 0, 0)) rfl (Or.inr rfl) ?_
              refine mm_go 4 (Y := (144, [(2, .inl x), (0, .inr (some 31)), (1, .inl s)], [.inl x, .inr (some 38), .inr (some 31)], shW, (mm_f2 (mm_f2 (mm_f2 (mm_f2 (rd N a b c d e) 31 20 (x + 3)) 31 16 (N 38 ((x + 2).toNat))) 31 17 (b + 1)) 31 19 1), 0, 0)) rfl ?_
              refine mm_cd (Y := (145, [(2, .inl x), (0, .inr (some 31)), (1, .inl s)], [.inl (N 38 (x.toNat)), .inr (some 31)], shW, (mm_f2 (mm_f2 (mm_f2 (mm_f2 (rd N a b c d e) 31 20 (x + 3)) 31 16 (N 38 ((x + 2).toNat))) 31 17 (b + 1)) 31 19 1), 0, 0)) rfl ⟨by omega, by omega⟩ ?_
              refine mm_go 2 (Y := (if (N 38 (x.toNat)) = 4 then 149 else 158, [(2, .inl x), (0, .inr (some 31)), (1, .inl s)], [.inr (some 31)], shW, (mm_f2 (mm_f2 (mm_f2 (mm_f2 (rd N a b c d e) 31 20 (x + 3)) 31 16 (N 38 ((x + 2).toNat))) 31 17 (b + 1)) 31 19 1), 0, 0)) rfl ?_
              refine mm_if (fun h9 => ?_) (fun h9 => ?_)
              · skip
                refine mm_go 4 (Y := (155, [(2, .inl x), (0, .inr (some 31)), (1, .inl s)], [.inl (mm_wr (c + 1)), .inr (some 31)], shW, (mm_f2 (mm_f2 (mm_f2 (mm_f2 (rd N a b c d e) 31 20 (x + 3)) 31 16 (N 38 ((x + 2).toNat))) 31 17 (b + 1)) 31 19 1), 0, 0)) rfl ?_
                rw [mm_wr_id (z := c + 1) (by omega) (by omega)]
                refine mm_go 3 (Y := (168, [(2, .inl (mm_wr (x + 3))), (0, .inr (some 31)), (1, .inl s)], [], shW, (mm_f2 (mm_f2 (mm_f2 (mm_f2 (mm_f2 (rd N a b c d e) 31 20 (x + 3)) 31 16 (N 38 ((x + 2).toNat))) 31 17 (b + 1)) 31 19 1) 31 18 (c + 1)), 0, 0)) rfl ?_
                rw [mm_wr_id (z := x + 3) (by omega) (by omega)]
                refine mm_go 1 (Y := (27, [(2, .inl (x + 3)), (0, .inr (some 31)), (1, .inl s)], [], shW, (mm_f2 (mm_f2 (mm_f2 (mm_f2 (mm_f2 (rd N a b c d e) 31 20 (x + 3)) 31 16 (N 38 ((x + 2).toNat))) 31 17 (b + 1)) 31 19 1) 31 18 (c + 1)), 0, 0)) rfl ?_
                simp only [rd_16, rd_17, rd_18, rd_19, rd_20]
                rw [q1] at h2
                rw [q0] at h3
                rw [q0] at h4
                rw [q0] at h9
                exfalso; omega
              · skip
                refine mm_go 4 (Y := (168, [(2, .inl (mm_wr (x + 3))), (0, .inr (some 31)), (1, .inl s)], [], shW, (mm_f2 (mm_f2 (mm_f2 (mm_f2 (mm_f2 (rd N a b c d e) 31 20 (x + 3)) 31 16 (N 38 ((x + 2).toNat))) 31 17 (b + 1)) 31 19 1) 31 18 c), 0, 0)) rfl ?_
                rw [mm_wr_id (z := x + 3) (by omega) (by omega)]
                refine mm_go 1 (Y := (27, [(2, .inl (x + 3)), (0, .inr (some 31)), (1, .inl s)], [], shW, (mm_f2 (mm_f2 (mm_f2 (mm_f2 (mm_f2 (rd N a b c d e) 31 20 (x + 3)) 31 16 (N 38 ((x + 2).toNat))) 31 17 (b + 1)) 31 19 1) 31 18 c), 0, 0)) rfl ?_
                simp only [rd_16, rd_17, rd_18, rd_19, rd_20]
                rw [q1] at h2
                rw [q0] at h3
                rw [q0] at h4
                rw [q0] at h9
                exfalso; omega
          · skip
            refine mm_go 7 (Y := (if d = 0 then 120 else 130, [(2, .inl x), (0, .inr (some 31)), (1, .inl s)], [.inr (some 31)], shW, (mm_f2 (mm_f2 (mm_f2 (rd N a b c d e) 31 20 (x + 3)) 31 16 (N 38 ((x + 2).toNat))) 31 17 b), 0, 0)) rfl ?_
            refine mm_if (fun h10 => ?_) (fun h10 => ?_)
            · skip
              refine mm_go 3 (Y := (125, [(2, .inl x), (0, .inr (some 31)), (1, .inl s)], [.inl x, .inr (some 38), .inr (some 31)], shW, (mm_f2 (mm_f2 (mm_f2 (rd N a b c d e) 31 20 (x + 3)) 31 16 (N 38 ((x + 2).toNat))) 31 17 b), 0, 0)) rfl ?_
              refine mm_cd (Y := (126, [(2, .inl x), (0, .inr (some 31)), (1, .inl s)], [.inl (N 38 (x.toNat)), .inr (some 31)], shW, (mm_f2 (mm_f2 (mm_f2 (rd N a b c d e) 31 20 (x + 3)) 31 16 (N 38 ((x + 2).toNat))) 31 17 b), 0, 0)) rfl ⟨by omega, by omega⟩ ?_
              refine mm_go 2 (Y := (if (N 38 (x.toNat)) = 3 then 130 else 134, [(2, .inl x), (0, .inr (some 31)), (1, .inl s)], [.inr (some 31)], shW, (mm_f2 (mm_f2 (mm_f2 (rd N a b c d e) 31 20 (x + 3)) 31 16 (N 38 ((x + 2).toNat))) 31 17 b), 0, 0)) rfl ?_
              refine mm_if (fun h11 => ?_) (fun h11 => ?_)
              · skip
                refine mm_go 2 (Y := (135, [(2, .inl x), (0, .inr (some 31)), (1, .inl s)], [.inl 1, .inr (some 31)], shW, (mm_f2 (mm_f2 (mm_f2 (rd N a b c d e) 31 20 (x + 3)) 31 16 (N 38 ((x + 2).toNat))) 31 17 b), 0, 0)) rfl ?_
                refine mm_cd (Y := (138, [(2, .inl x), (0, .inr (some 31)), (1, .inl s)], [], shW, (mm_f2 (mm_f2 (mm_f2 (mm_f2 (rd N a b c d e) 31 20 (x + 3)) 31 16 (N 38 ((x + 2).toNat))) 31 17 b) 31 19 1), 0, 0)) rfl (Or.inr rfl) ?_
                refine mm_go 4 (Y := (144, [(2, .inl x), (0, .inr (some 31)), (1, .inl s)], [.inl x, .inr (some 38), .inr (some 31)], shW, (mm_f2 (mm_f2 (mm_f2 (mm_f2 (rd N a b c d e) 31 20 (x + 3)) 31 16 (N 38 ((x + 2).toNat))) 31 17 b) 31 19 1), 0, 0)) rfl ?_
                refine mm_cd (Y := (145, [(2, .inl x), (0, .inr (some 31)), (1, .inl s)], [.inl (N 38 (x.toNat)), .inr (some 31)], shW, (mm_f2 (mm_f2 (mm_f2 (mm_f2 (rd N a b c d e) 31 20 (x + 3)) 31 16 (N 38 ((x + 2).toNat))) 31 17 b) 31 19 1), 0, 0)) rfl ⟨by omega, by omega⟩ ?_
                refine mm_go 2 (Y := (if (N 38 (x.toNat)) = 4 then 149 else 158, [(2, .inl x), (0, .inr (some 31)), (1, .inl s)], [.inr (some 31)], shW, (mm_f2 (mm_f2 (mm_f2 (mm_f2 (rd N a b c d e) 31 20 (x + 3)) 31 16 (N 38 ((x + 2).toNat))) 31 17 b) 31 19 1), 0, 0)) rfl ?_
                refine mm_if (fun h12 => ?_) (fun h12 => ?_)
                · skip
                  refine mm_go 4 (Y := (155, [(2, .inl x), (0, .inr (some 31)), (1, .inl s)], [.inl (mm_wr (c + 1)), .inr (some 31)], shW, (mm_f2 (mm_f2 (mm_f2 (mm_f2 (rd N a b c d e) 31 20 (x + 3)) 31 16 (N 38 ((x + 2).toNat))) 31 17 b) 31 19 1), 0, 0)) rfl ?_
                  rw [mm_wr_id (z := c + 1) (by omega) (by omega)]
                  refine mm_go 3 (Y := (168, [(2, .inl (mm_wr (x + 3))), (0, .inr (some 31)), (1, .inl s)], [], shW, (mm_f2 (mm_f2 (mm_f2 (mm_f2 (mm_f2 (rd N a b c d e) 31 20 (x + 3)) 31 16 (N 38 ((x + 2).toNat))) 31 17 b) 31 19 1) 31 18 (c + 1)), 0, 0)) rfl ?_
                  rw [mm_wr_id (z := x + 3) (by omega) (by omega)]
                  refine mm_go 1 (Y := (27, [(2, .inl (x + 3)), (0, .inr (some 31)), (1, .inl s)], [], shW, (mm_f2 (mm_f2 (mm_f2 (mm_f2 (mm_f2 (rd N a b c d e) 31 20 (x + 3)) 31 16 (N 38 ((x + 2).toNat))) 31 17 b) 31 19 1) 31 18 (c + 1)), 0, 0)) rfl ?_
                  simp only [rd_16, rd_17, rd_18, rd_19, rd_20]
                  rw [q1] at h2
                  rw [q0] at h3
                  rw [q0] at h4
                  rw [q0] at h11
                  rw [q0] at h12
                  exfalso; omega
                · skip
                  refine mm_go 4 (Y := (168, [(2, .inl (mm_wr (x + 3))), (0, .inr (some 31)), (1, .inl s)], [], shW, (mm_f2 (mm_f2 (mm_f2 (mm_f2 (mm_f2 (rd N a b c d e) 31 20 (x + 3)) 31 16 (N 38 ((x + 2).toNat))) 31 17 b) 31 19 1) 31 18 c), 0, 0)) rfl ?_
                  rw [mm_wr_id (z := x + 3) (by omega) (by omega)]
                  refine mm_go 1 (Y := (27, [(2, .inl (x + 3)), (0, .inr (some 31)), (1, .inl s)], [], shW, (mm_f2 (mm_f2 (mm_f2 (mm_f2 (mm_f2 (rd N a b c d e) 31 20 (x + 3)) 31 16 (N 38 ((x + 2).toNat))) 31 17 b) 31 19 1) 31 18 c), 0, 0)) rfl ?_
                  simp only [rd_16, rd_17, rd_18, rd_19, rd_20]
                  rw [q1] at h2
                  rw [q0] at h3
                  rw [q0] at h4
                  rw [q0] at h11
                  rw [q0] at h12
                  exfalso; omega
              · skip
                refine mm_go 1 (Y := (135, [(2, .inl x), (0, .inr (some 31)), (1, .inl s)], [.inl 0, .inr (some 31)], shW, (mm_f2 (mm_f2 (mm_f2 (rd N a b c d e) 31 20 (x + 3)) 31 16 (N 38 ((x + 2).toNat))) 31 17 b), 0, 0)) rfl ?_
                refine mm_cd (Y := (138, [(2, .inl x), (0, .inr (some 31)), (1, .inl s)], [], shW, (mm_f2 (mm_f2 (mm_f2 (mm_f2 (rd N a b c d e) 31 20 (x + 3)) 31 16 (N 38 ((x + 2).toNat))) 31 17 b) 31 19 0), 0, 0)) rfl (Or.inl rfl) ?_
                refine mm_go 4 (Y := (144, [(2, .inl x), (0, .inr (some 31)), (1, .inl s)], [.inl x, .inr (some 38), .inr (some 31)], shW, (mm_f2 (mm_f2 (mm_f2 (mm_f2 (rd N a b c d e) 31 20 (x + 3)) 31 16 (N 38 ((x + 2).toNat))) 31 17 b) 31 19 0), 0, 0)) rfl ?_
                refine mm_cd (Y := (145, [(2, .inl x), (0, .inr (some 31)), (1, .inl s)], [.inl (N 38 (x.toNat)), .inr (some 31)], shW, (mm_f2 (mm_f2 (mm_f2 (mm_f2 (rd N a b c d e) 31 20 (x + 3)) 31 16 (N 38 ((x + 2).toNat))) 31 17 b) 31 19 0), 0, 0)) rfl ⟨by omega, by omega⟩ ?_
                refine mm_go 2 (Y := (if (N 38 (x.toNat)) = 4 then 149 else 158, [(2, .inl x), (0, .inr (some 31)), (1, .inl s)], [.inr (some 31)], shW, (mm_f2 (mm_f2 (mm_f2 (mm_f2 (rd N a b c d e) 31 20 (x + 3)) 31 16 (N 38 ((x + 2).toNat))) 31 17 b) 31 19 0), 0, 0)) rfl ?_
                refine mm_if (fun h13 => ?_) (fun h13 => ?_)
                · skip
                  refine mm_go 4 (Y := (155, [(2, .inl x), (0, .inr (some 31)), (1, .inl s)], [.inl (mm_wr (c + 1)), .inr (some 31)], shW, (mm_f2 (mm_f2 (mm_f2 (mm_f2 (rd N a b c d e) 31 20 (x + 3)) 31 16 (N 38 ((x + 2).toNat))) 31 17 b) 31 19 0), 0, 0)) rfl ?_
                  rw [mm_wr_id (z := c + 1) (by omega) (by omega)]
                  refine mm_go 3 (Y := (168, [(2, .inl (mm_wr (x + 3))), (0, .inr (some 31)), (1, .inl s)], [], shW, (mm_f2 (mm_f2 (mm_f2 (mm_f2 (mm_f2 (rd N a b c d e) 31 20 (x + 3)) 31 16 (N 38 ((x + 2).toNat))) 31 17 b) 31 19 0) 31 18 (c + 1)), 0, 0)) rfl ?_
                  rw [mm_wr_id (z := x + 3) (by omega) (by omega)]
                  refine mm_go 1 (Y := (27, [(2, .inl (x + 3)), (0, .inr (some 31)), (1, .inl s)], [], shW, (mm_f2 (mm_f2 (mm_f2 (mm_f2 (mm_f2 (rd N a b c d e) 31 20 (x + 3)) 31 16 (N 38 ((x + 2).toNat))) 31 17 b) 31 19 0) 31 18 (c + 1)), 0, 0)) rfl ?_
                  simp only [rd_16, rd_17, rd_18, rd_19, rd_20]
                  rw [q1] at h2
                  rw [q0] at h3
                  rw [q0] at h4
                  rw [q0] at h11
                  rw [q0] at h13
                  exfalso; omega
                · skip
                  refine mm_go 4 (Y := (168, [(2, .inl (mm_wr (x + 3))), (0, .inr (some 31)), (1, .inl s)], [], shW, (mm_f2 (mm_f2 (mm_f2 (mm_f2 (mm_f2 (rd N a b c d e) 31 20 (x + 3)) 31 16 (N 38 ((x + 2).toNat))) 31 17 b) 31 19 0) 31 18 c), 0, 0)) rfl ?_
                  rw [mm_wr_id (z := x + 3) (by omega) (by omega)]
                  refine mm_go 1 (Y := (27, [(2, .inl (x + 3)), (0, .inr (some 31)), (1, .inl s)], [], shW, (mm_f2 (mm_f2 (mm_f2 (mm_f2 (mm_f2 (rd N a b c d e) 31 20 (x + 3)) 31 16 (N 38 ((x + 2).toNat))) 31 17 b) 31 19 0) 31 18 c), 0, 0)) rfl ?_
                  simp only [rd_16, rd_17, rd_18, rd_19, rd_20]
                  rw [q1] at h2
                  rw [q0] at h3
                  rw [q0] at h4
                  rw [q0] at h11
                  rw [q0] at h13
                  refine ih (i + 1) _ _ _ _ _ _ (by omega) (by omega) ?_ ?_ ?_ ?_ ?_
                  · simp [lg_k, q2, h2, h3, h4, h10, h11, h13, ← e1, ← e2, ← e3, ← e4, ← e5]
                  · simp [lg_d, q2, h2, h3, h4, h10, h11, h13, ← e1, ← e2, ← e3, ← e4, ← e5]
                  · simp [lg_u, q2, h2, h3, h4, h10, h11, h13, ← e1, ← e2, ← e3, ← e4, ← e5]
                  · simp [lg_r, q2, h2, h3, h4, h10, h11, h13, ← e1, ← e2, ← e3, ← e4, ← e5]
                  · simp [lg_e, q2, h2, h3, h4, h10, h11, h13, ← e1, ← e2, ← e3, ← e4, ← e5] <;> omega
            · skip
              refine mm_go 2 (Y := (135, [(2, .inl x), (0, .inr (some 31)), (1, .inl s)], [.inl 1, .inr (some 31)], shW, (mm_f2 (mm_f2 (mm_f2 (rd N a b c d e) 31 20 (x + 3)) 31 16 (N 38 ((x + 2).toNat))) 31 17 b), 0, 0)) rfl ?_
              refine mm_cd (Y := (138, [(2, .inl x), (0, .inr (some 31)), (1, .inl s)], [], shW, (mm_f2 (mm_f2 (mm_f2 (mm_f2 (rd N a b c d e) 31 20 (x + 3)) 31 16 (N 38 ((x + 2).toNat))) 31 17 b) 31 19 1), 0, 0)) rfl (Or.inr rfl) ?_
              refine mm_go 4 (Y := (144, [(2, .inl x), (0, .inr (some 31)), (1, .inl s)], [.inl x, .inr (some 38), .inr (some 31)], shW, (mm_f2 (mm_f2 (mm_f2 (mm_f2 (rd N a b c d e) 31 20 (x + 3)) 31 16 (N 38 ((x + 2).toNat))) 31 17 b) 31 19 1), 0, 0)) rfl ?_
              refine mm_cd (Y := (145, [(2, .inl x), (0, .inr (some 31)), (1, .inl s)], [.inl (N 38 (x.toNat)), .inr (some 31)], shW, (mm_f2 (mm_f2 (mm_f2 (mm_f2 (rd N a b c d e) 31 20 (x + 3)) 31 16 (N 38 ((x + 2).toNat))) 31 17 b) 31 19 1), 0, 0)) rfl ⟨by omega, by omega⟩ ?_
              refine mm_go 2 (Y := (if (N 38 (x.toNat)) = 4 then 149 else 158, [(2, .inl x), (0, .inr (some 31)), (1, .inl s)], [.inr (some 31)], shW, (mm_f2 (mm_f2 (mm_f2 (mm_f2 (rd N a b c d e) 31 20 (x + 3)) 31 16 (N 38 ((x + 2).toNat))) 31 17 b) 31 19 1), 0, 0)) rfl ?_
              refine mm_if (fun h14 => ?_) (fun h14 => ?_)
              · skip
                refine mm_go 4 (Y := (155, [(2, .inl x), (0, .inr (some 31)), (1, .inl s)], [.inl (mm_wr (c + 1)), .inr (some 31)], shW, (mm_f2 (mm_f2 (mm_f2 (mm_f2 (rd N a b c d e) 31 20 (x + 3)) 31 16 (N 38 ((x + 2).toNat))) 31 17 b) 31 19 1), 0, 0)) rfl ?_
                rw [mm_wr_id (z := c + 1) (by omega) (by omega)]
                refine mm_go 3 (Y := (168, [(2, .inl (mm_wr (x + 3))), (0, .inr (some 31)), (1, .inl s)], [], shW, (mm_f2 (mm_f2 (mm_f2 (mm_f2 (mm_f2 (rd N a b c d e) 31 20 (x + 3)) 31 16 (N 38 ((x + 2).toNat))) 31 17 b) 31 19 1) 31 18 (c + 1)), 0, 0)) rfl ?_
                rw [mm_wr_id (z := x + 3) (by omega) (by omega)]
                refine mm_go 1 (Y := (27, [(2, .inl (x + 3)), (0, .inr (some 31)), (1, .inl s)], [], shW, (mm_f2 (mm_f2 (mm_f2 (mm_f2 (mm_f2 (rd N a b c d e) 31 20 (x + 3)) 31 16 (N 38 ((x + 2).toNat))) 31 17 b) 31 19 1) 31 18 (c + 1)), 0, 0)) rfl ?_
                simp only [rd_16, rd_17, rd_18, rd_19, rd_20]
                rw [q1] at h2
                rw [q0] at h3
                rw [q0] at h4
                rw [q0] at h14
                exfalso; omega
              · skip
                refine mm_go 4 (Y := (168, [(2, .inl (mm_wr (x + 3))), (0, .inr (some 31)), (1, .inl s)], [], shW, (mm_f2 (mm_f2 (mm_f2 (mm_f2 (mm_f2 (rd N a b c d e) 31 20 (x + 3)) 31 16 (N 38 ((x + 2).toNat))) 31 17 b) 31 19 1) 31 18 c), 0, 0)) rfl ?_
                rw [mm_wr_id (z := x + 3) (by omega) (by omega)]
                refine mm_go 1 (Y := (27, [(2, .inl (x + 3)), (0, .inr (some 31)), (1, .inl s)], [], shW, (mm_f2 (mm_f2 (mm_f2 (mm_f2 (mm_f2 (rd N a b c d e) 31 20 (x + 3)) 31 16 (N 38 ((x + 2).toNat))) 31 17 b) 31 19 1) 31 18 c), 0, 0)) rfl ?_
                simp only [rd_16, rd_17, rd_18, rd_19, rd_20]
                rw [q1] at h2
                rw [q0] at h3
                rw [q0] at h4
                rw [q0] at h14
                refine ih (i + 1) _ _ _ _ _ _ (by omega) (by omega) ?_ ?_ ?_ ?_ ?_
                · simp [lg_k, q2, h2, h3, h4, h10, h14, ← e1, ← e2, ← e3, ← e4, ← e5]
                · simp [lg_d, q2, h2, h3, h4, h10, h14, ← e1, ← e2, ← e3, ← e4, ← e5]
                · simp [lg_u, q2, h2, h3, h4, h10, h14, ← e1, ← e2, ← e3, ← e4, ← e5]
                · simp [lg_r, q2, h2, h3, h4, h10, h14, ← e1, ← e2, ← e3, ← e4, ← e5]
                · simp [lg_e, q2, h2, h3, h4, h10, h14, ← e1, ← e2, ← e3, ← e4, ← e5] <;> omega
        · skip
          refine mm_go 7 (Y := (91, [(2, .inl x), (0, .inr (some 31)), (1, .inl s)], [.inl x, .inr (some 38), .inr (some 31)], shW, (mm_f2 (mm_f2 (rd N a b c d e) 31 20 (x + 3)) 31 16 a), 0, 0)) rfl ?_
          refine mm_cd (Y := (92, [(2, .inl x), (0, .inr (some 31)), (1, .inl s)], [.inl (N 38 (x.toNat)), .inr (some 31)], shW, (mm_f2 (mm_f2 (rd N a b c d e) 31 20 (x + 3)) 31 16 a), 0, 0)) rfl ⟨by omega, by omega⟩ ?_
          refine mm_go 2 (Y := (if (N 38 (x.toNat)) = 2 then 96 else 105, [(2, .inl x), (0, .inr (some 31)), (1, .inl s)], [.inr (some 31)], shW, (mm_f2 (mm_f2 (rd N a b c d e) 31 20 (x + 3)) 31 16 a), 0, 0)) rfl ?_
          refine mm_if (fun h15 => ?_) (fun h15 => ?_)
          · skip
            refine mm_go 4 (Y := (102, [(2, .inl x), (0, .inr (some 31)), (1, .inl s)], [.inl (mm_wr (b + 1)), .inr (some 31)], shW, (mm_f2 (mm_f2 (rd N a b c d e) 31 20 (x + 3)) 31 16 a), 0, 0)) rfl ?_
            rw [mm_wr_id (z := b + 1) (by omega) (by omega)]
            refine mm_go 6 (Y := (if d = 0 then 120 else 130, [(2, .inl x), (0, .inr (some 31)), (1, .inl s)], [.inr (some 31)], shW, (mm_f2 (mm_f2 (mm_f2 (rd N a b c d e) 31 20 (x + 3)) 31 16 a) 31 17 (b + 1)), 0, 0)) rfl ?_
            refine mm_if (fun h16 => ?_) (fun h16 => ?_)
            · skip
              refine mm_go 3 (Y := (125, [(2, .inl x), (0, .inr (some 31)), (1, .inl s)], [.inl x, .inr (some 38), .inr (some 31)], shW, (mm_f2 (mm_f2 (mm_f2 (rd N a b c d e) 31 20 (x + 3)) 31 16 a) 31 17 (b + 1)), 0, 0)) rfl ?_
              refine mm_cd (Y := (126, [(2, .inl x), (0, .inr (some 31)), (1, .inl s)], [.inl (N 38 (x.toNat)), .inr (some 31)], shW, (mm_f2 (mm_f2 (mm_f2 (rd N a b c d e) 31 20 (x + 3)) 31 16 a) 31 17 (b + 1)), 0, 0)) rfl ⟨by omega, by omega⟩ ?_
              refine mm_go 2 (Y := (if (N 38 (x.toNat)) = 3 then 130 else 134, [(2, .inl x), (0, .inr (some 31)), (1, .inl s)], [.inr (some 31)], shW, (mm_f2 (mm_f2 (mm_f2 (rd N a b c d e) 31 20 (x + 3)) 31 16 a) 31 17 (b + 1)), 0, 0)) rfl ?_
              refine mm_if (fun h17 => ?_) (fun h17 => ?_)
              · skip
                refine mm_go 2 (Y := (135, [(2, .inl x), (0, .inr (some 31)), (1, .inl s)], [.inl 1, .inr (some 31)], shW, (mm_f2 (mm_f2 (mm_f2 (rd N a b c d e) 31 20 (x + 3)) 31 16 a) 31 17 (b + 1)), 0, 0)) rfl ?_
                refine mm_cd (Y := (138, [(2, .inl x), (0, .inr (some 31)), (1, .inl s)], [], shW, (mm_f2 (mm_f2 (mm_f2 (mm_f2 (rd N a b c d e) 31 20 (x + 3)) 31 16 a) 31 17 (b + 1)) 31 19 1), 0, 0)) rfl (Or.inr rfl) ?_
                refine mm_go 4 (Y := (144, [(2, .inl x), (0, .inr (some 31)), (1, .inl s)], [.inl x, .inr (some 38), .inr (some 31)], shW, (mm_f2 (mm_f2 (mm_f2 (mm_f2 (rd N a b c d e) 31 20 (x + 3)) 31 16 a) 31 17 (b + 1)) 31 19 1), 0, 0)) rfl ?_
                refine mm_cd (Y := (145, [(2, .inl x), (0, .inr (some 31)), (1, .inl s)], [.inl (N 38 (x.toNat)), .inr (some 31)], shW, (mm_f2 (mm_f2 (mm_f2 (mm_f2 (rd N a b c d e) 31 20 (x + 3)) 31 16 a) 31 17 (b + 1)) 31 19 1), 0, 0)) rfl ⟨by omega, by omega⟩ ?_
                refine mm_go 2 (Y := (if (N 38 (x.toNat)) = 4 then 149 else 158, [(2, .inl x), (0, .inr (some 31)), (1, .inl s)], [.inr (some 31)], shW, (mm_f2 (mm_f2 (mm_f2 (mm_f2 (rd N a b c d e) 31 20 (x + 3)) 31 16 a) 31 17 (b + 1)) 31 19 1), 0, 0)) rfl ?_
                refine mm_if (fun h18 => ?_) (fun h18 => ?_)
                · skip
                  refine mm_go 4 (Y := (155, [(2, .inl x), (0, .inr (some 31)), (1, .inl s)], [.inl (mm_wr (c + 1)), .inr (some 31)], shW, (mm_f2 (mm_f2 (mm_f2 (mm_f2 (rd N a b c d e) 31 20 (x + 3)) 31 16 a) 31 17 (b + 1)) 31 19 1), 0, 0)) rfl ?_
                  rw [mm_wr_id (z := c + 1) (by omega) (by omega)]
                  refine mm_go 3 (Y := (168, [(2, .inl (mm_wr (x + 3))), (0, .inr (some 31)), (1, .inl s)], [], shW, (mm_f2 (mm_f2 (mm_f2 (mm_f2 (mm_f2 (rd N a b c d e) 31 20 (x + 3)) 31 16 a) 31 17 (b + 1)) 31 19 1) 31 18 (c + 1)), 0, 0)) rfl ?_
                  rw [mm_wr_id (z := x + 3) (by omega) (by omega)]
                  refine mm_go 1 (Y := (27, [(2, .inl (x + 3)), (0, .inr (some 31)), (1, .inl s)], [], shW, (mm_f2 (mm_f2 (mm_f2 (mm_f2 (mm_f2 (rd N a b c d e) 31 20 (x + 3)) 31 16 a) 31 17 (b + 1)) 31 19 1) 31 18 (c + 1)), 0, 0)) rfl ?_
                  simp only [rd_16, rd_17, rd_18, rd_19, rd_20]
                  rw [q1] at h2
                  rw [q0] at h3
                  rw [q0] at h15
                  rw [q0] at h17
                  rw [q0] at h18
                  exfalso; omega
                · skip
                  refine mm_go 4 (Y := (168, [(2, .inl (mm_wr (x + 3))), (0, .inr (some 31)), (1, .inl s)], [], shW, (mm_f2 (mm_f2 (mm_f2 (mm_f2 (mm_f2 (rd N a b c d e) 31 20 (x + 3)) 31 16 a) 31 17 (b + 1)) 31 19 1) 31 18 c), 0, 0)) rfl ?_
                  rw [mm_wr_id (z := x + 3) (by omega) (by omega)]
                  refine mm_go 1 (Y := (27, [(2, .inl (x + 3)), (0, .inr (some 31)), (1, .inl s)], [], shW, (mm_f2 (mm_f2 (mm_f2 (mm_f2 (mm_f2 (rd N a b c d e) 31 20 (x + 3)) 31 16 a) 31 17 (b + 1)) 31 19 1) 31 18 c), 0, 0)) rfl ?_
                  simp only [rd_16, rd_17, rd_18, rd_19, rd_20]
                  rw [q1] at h2
                  rw [q0] at h3
                  rw [q0] at h15
                  rw [q0] at h17
                  rw [q0] at h18
                  exfalso; omega
              · skip
                refine mm_go 1 (Y := (135, [(2, .inl x), (0, .inr (some 31)), (1, .inl s)], [.inl 0, .inr (some 31)], shW, (mm_f2 (mm_f2 (mm_f2 (rd N a b c d e) 31 20 (x + 3)) 31 16 a) 31 17 (b + 1)), 0, 0)) rfl ?_
                refine mm_cd (Y := (138, [(2, .inl x), (0, .inr (some 31)), (1, .inl s)], [], shW, (mm_f2 (mm_f2 (mm_f2 (mm_f2 (rd N a b c d e) 31 20 (x + 3)) 31 16 a) 31 17 (b + 1)) 31 19 0), 0, 0)) rfl (Or.inl rfl) ?_
                refine mm_go 4 (Y := (144, [(2, .inl x), (0, .inr (some 31)), (1, .inl s)], [.inl x, .inr (some 38), .inr (some 31)], shW, (mm_f2 (mm_f2 (mm_f2 (mm_f2 (rd N a b c d e) 31 20 (x + 3)) 31 16 a) 31 17 (b + 1)) 31 19 0), 0, 0)) rfl ?_
                refine mm_cd (Y := (145, [(2, .inl x), (0, .inr (some 31)), (1, .inl s)], [.inl (N 38 (x.toNat)), .inr (some 31)], shW, (mm_f2 (mm_f2 (mm_f2 (mm_f2 (rd N a b c d e) 31 20 (x + 3)) 31 16 a) 31 17 (b + 1)) 31 19 0), 0, 0)) rfl ⟨by omega, by omega⟩ ?_
                refine mm_go 2 (Y := (if (N 38 (x.toNat)) = 4 then 149 else 158, [(2, .inl x), (0, .inr (some 31)), (1, .inl s)], [.inr (some 31)], shW, (mm_f2 (mm_f2 (mm_f2 (mm_f2 (rd N a b c d e) 31 20 (x + 3)) 31 16 a) 31 17 (b + 1)) 31 19 0), 0, 0)) rfl ?_
                refine mm_if (fun h19 => ?_) (fun h19 => ?_)
                · skip
                  refine mm_go 4 (Y := (155, [(2, .inl x), (0, .inr (some 31)), (1, .inl s)], [.inl (mm_wr (c + 1)), .inr (some 31)], shW, (mm_f2 (mm_f2 (mm_f2 (mm_f2 (rd N a b c d e) 31 20 (x + 3)) 31 16 a) 31 17 (b + 1)) 31 19 0), 0, 0)) rfl ?_
                  rw [mm_wr_id (z := c + 1) (by omega) (by omega)]
                  refine mm_go 3 (Y := (168, [(2, .inl (mm_wr (x + 3))), (0, .inr (some 31)), (1, .inl s)], [], shW, (mm_f2 (mm_f2 (mm_f2 (mm_f2 (mm_f2 (rd N a b c d e) 31 20 (x + 3)) 31 16 a) 31 17 (b + 1)) 31 19 0) 31 18 (c + 1)), 0, 0)) rfl ?_
                  rw [mm_wr_id (z := x + 3) (by omega) (by omega)]
                  refine mm_go 1 (Y := (27, [(2, .inl (x + 3)), (0, .inr (some 31)), (1, .inl s)], [], shW, (mm_f2 (mm_f2 (mm_f2 (mm_f2 (mm_f2 (rd N a b c d e) 31 20 (x + 3)) 31 16 a) 31 17 (b + 1)) 31 19 0) 31 18 (c + 1)), 0, 0)) rfl ?_
                  simp only [rd_16, rd_17, rd_18, rd_19, rd_20]
                  rw [q1] at h2
                  rw [q0] at h3
                  rw [q0] at h15
                  rw [q0] at h17
                  rw [q0] at h19
                  exfalso; omega
                · skip
                  refine mm_go 4 (Y := (168, [(2, .inl (mm_wr (x + 3))), (0, .inr (some 31)), (1, .inl s)], [], shW, (mm_f2 (mm_f2 (mm_f2 (mm_f2 (mm_f2 (rd N a b c d e) 31 20 (x + 3)) 31 16 a) 31 17 (b + 1)) 31 19 0) 31 18 c), 0, 0)) rfl ?_
                  rw [mm_wr_id (z := x + 3) (by omega) (by omega)]
                  refine mm_go 1 (Y := (27, [(2, .inl (x + 3)), (0, .inr (some 31)), (1, .inl s)], [], shW, (mm_f2 (mm_f2 (mm_f2 (mm_f2 (mm_f2 (rd N a b c d e) 31 20 (x + 3)) 31 16 a) 31 17 (b + 1)) 31 19 0) 31 18 c), 0, 0)) rfl ?_
                  simp only [rd_16, rd_17, rd_18, rd_19, rd_20]
                  rw [q1] at h2
                  rw [q0] at h3
                  rw [q0] at h15
                  rw [q0] at h17
                  rw [q0] at h19
                  refine ih (i + 1) _ _ _ _ _ _ (by omega) (by omega) ?_ ?_ ?_ ?_ ?_
                  · simp [lg_k, q2, h2, h3, h15, h16, h17, h19, ← e1, ← e2, ← e3, ← e4, ← e5]
                  · simp [lg_d, q2, h2, h3, h15, h16, h17, h19, ← e1, ← e2, ← e3, ← e4, ← e5]
                  · simp [lg_u, q2, h2, h3, h15, h16, h17, h19, ← e1, ← e2, ← e3, ← e4, ← e5]
                  · simp [lg_r, q2, h2, h3, h15, h16, h17, h19, ← e1, ← e2, ← e3, ← e4, ← e5]
                  · simp [lg_e, q2, h2, h3, h15, h16, h17, h19, ← e1, ← e2, ← e3, ← e4, ← e5] <;> omega
            · skip
              refine mm_go 2 (Y := (135, [(2, .inl x), (0, .inr (some 31)), (1, .inl s)], [.inl 1, .inr (some 31)], shW, (mm_f2 (mm_f2 (mm_f2 (rd N a b c d e) 31 20 (x + 3)) 31 16 a) 31 17 (b + 1)), 0, 0)) rfl ?_
              refine mm_cd (Y := (138, [(2, .inl x), (0, .inr (some 31)), (1, .inl s)], [], shW, (mm_f2 (mm_f2 (mm_f2 (mm_f2 (rd N a b c d e) 31 20 (x + 3)) 31 16 a) 31 17 (b + 1)) 31 19 1), 0, 0)) rfl (Or.inr rfl) ?_
              refine mm_go 4 (Y := (144, [(2, .inl x), (0, .inr (some 31)), (1, .inl s)], [.inl x, .inr (some 38), .inr (some 31)], shW, (mm_f2 (mm_f2 (mm_f2 (mm_f2 (rd N a b c d e) 31 20 (x + 3)) 31 16 a) 31 17 (b + 1)) 31 19 1), 0, 0)) rfl ?_
              refine mm_cd (Y := (145, [(2, .inl x), (0, .inr (some 31)), (1, .inl s)], [.inl (N 38 (x.toNat)), .inr (some 31)], shW, (mm_f2 (mm_f2 (mm_f2 (mm_f2 (rd N a b c d e) 31 20 (x + 3)) 31 16 a) 31 17 (b + 1)) 31 19 1), 0, 0)) rfl ⟨by omega, by omega⟩ ?_
              refine mm_go 2 (Y := (if (N 38 (x.toNat)) = 4 then 149 else 158, [(2, .inl x), (0, .inr (some 31)), (1, .inl s)], [.inr (some 31)], shW, (mm_f2 (mm_f2 (mm_f2 (mm_f2 (rd N a b c d e) 31 20 (x + 3)) 31 16 a) 31 17 (b + 1)) 31 19 1), 0, 0)) rfl ?_
              refine mm_if (fun h20 => ?_) (fun h20 => ?_)
              · skip
                refine mm_go 4 (Y := (155, [(2, .inl x), (0, .inr (some 31)), (1, .inl s)], [.inl (mm_wr (c + 1)), .inr (some 31)], shW, (mm_f2 (mm_f2 (mm_f2 (mm_f2 (rd N a b c d e) 31 20 (x + 3)) 31 16 a) 31 17 (b + 1)) 31 19 1), 0, 0)) rfl ?_
                rw [mm_wr_id (z := c + 1) (by omega) (by omega)]
                refine mm_go 3 (Y := (168, [(2, .inl (mm_wr (x + 3))), (0, .inr (some 31)), (1, .inl s)], [], shW, (mm_f2 (mm_f2 (mm_f2 (mm_f2 (mm_f2 (rd N a b c d e) 31 20 (x + 3)) 31 16 a) 31 17 (b + 1)) 31 19 1) 31 18 (c + 1)), 0, 0)) rfl ?_
                rw [mm_wr_id (z := x + 3) (by omega) (by omega)]
                refine mm_go 1 (Y := (27, [(2, .inl (x + 3)), (0, .inr (some 31)), (1, .inl s)], [], shW, (mm_f2 (mm_f2 (mm_f2 (mm_f2 (mm_f2 (rd N a b c d e) 31 20 (x + 3)) 31 16 a) 31 17 (b + 1)) 31 19 1) 31 18 (c + 1)), 0, 0)) rfl ?_
                simp only [rd_16, rd_17, rd_18, rd_19, rd_20]
                rw [q1] at h2
                rw [q0] at h3
                rw [q0] at h15
                rw [q0] at h20
                exfalso; omega
              · skip
                refine mm_go 4 (Y := (168, [(2, .inl (mm_wr (x + 3))), (0, .inr (some 31)), (1, .inl s)], [], shW, (mm_f2 (mm_f2 (mm_f2 (mm_f2 (mm_f2 (rd N a b c d e) 31 20 (x + 3)) 31 16 a) 31 17 (b + 1)) 31 19 1) 31 18 c), 0, 0)) rfl ?_
                rw [mm_wr_id (z := x + 3) (by omega) (by omega)]
                refine mm_go 1 (Y := (27, [(2, .inl (x + 3)), (0, .inr (some 31)), (1, .inl s)], [], shW, (mm_f2 (mm_f2 (mm_f2 (mm_f2 (mm_f2 (rd N a b c d e) 31 20 (x + 3)) 31 16 a) 31 17 (b + 1)) 31 19 1) 31 18 c), 0, 0)) rfl ?_
                simp only [rd_16, rd_17, rd_18, rd_19, rd_20]
                rw [q1] at h2
                rw [q0] at h3
                rw [q0] at h15
                rw [q0] at h20
                refine ih (i + 1) _ _ _ _ _ _ (by omega) (by omega) ?_ ?_ ?_ ?_ ?_
                · simp [lg_k, q2, h2, h3, h15, h16, h20, ← e1, ← e2, ← e3, ← e4, ← e5]
                · simp [lg_d, q2, h2, h3, h15, h16, h20, ← e1, ← e2, ← e3, ← e4, ← e5]
                · simp [lg_u, q2, h2, h3, h15, h16, h20, ← e1, ← e2, ← e3, ← e4, ← e5]
                · simp [lg_r, q2, h2, h3, h15, h16, h20, ← e1, ← e2, ← e3, ← e4, ← e5]
                · simp [lg_e, q2, h2, h3, h15, h16, h20, ← e1, ← e2, ← e3, ← e4, ← e5] <;> omega
          · skip
            refine mm_go 7 (Y := (if d = 0 then 120 else 130, [(2, .inl x), (0, .inr (some 31)), (1, .inl s)], [.inr (some 31)], shW, (mm_f2 (mm_f2 (mm_f2 (rd N a b c d e) 31 20 (x + 3)) 31 16 a) 31 17 b), 0, 0)) rfl ?_
            refine mm_if (fun h21 => ?_) (fun h21 => ?_)
            · skip
              refine mm_go 3 (Y := (125, [(2, .inl x), (0, .inr (some 31)), (1, .inl s)], [.inl x, .inr (some 38), .inr (some 31)], shW, (mm_f2 (mm_f2 (mm_f2 (rd N a b c d e) 31 20 (x + 3)) 31 16 a) 31 17 b), 0, 0)) rfl ?_
              refine mm_cd (Y := (126, [(2, .inl x), (0, .inr (some 31)), (1, .inl s)], [.inl (N 38 (x.toNat)), .inr (some 31)], shW, (mm_f2 (mm_f2 (mm_f2 (rd N a b c d e) 31 20 (x + 3)) 31 16 a) 31 17 b), 0, 0)) rfl ⟨by omega, by omega⟩ ?_
              refine mm_go 2 (Y := (if (N 38 (x.toNat)) = 3 then 130 else 134, [(2, .inl x), (0, .inr (some 31)), (1, .inl s)], [.inr (some 31)], shW, (mm_f2 (mm_f2 (mm_f2 (rd N a b c d e) 31 20 (x + 3)) 31 16 a) 31 17 b), 0, 0)) rfl ?_
              refine mm_if (fun h22 => ?_) (fun h22 => ?_)
              · skip
                refine mm_go 2 (Y := (135, [(2, .inl x), (0, .inr (some 31)), (1, .inl s)], [.inl 1, .inr (some 31)], shW, (mm_f2 (mm_f2 (mm_f2 (rd N a b c d e) 31 20 (x + 3)) 31 16 a) 31 17 b), 0, 0)) rfl ?_
                refine mm_cd (Y := (138, [(2, .inl x), (0, .inr (some 31)), (1, .inl s)], [], shW, (mm_f2 (mm_f2 (mm_f2 (mm_f2 (rd N a b c d e) 31 20 (x + 3)) 31 16 a) 31 17 b) 31 19 1), 0, 0)) rfl (Or.inr rfl) ?_
                refine mm_go 4 (Y := (144, [(2, .inl x), (0, .inr (some 31)), (1, .inl s)], [.inl x, .inr (some 38), .inr (some 31)], shW, (mm_f2 (mm_f2 (mm_f2 (mm_f2 (rd N a b c d e) 31 20 (x + 3)) 31 16 a) 31 17 b) 31 19 1), 0, 0)) rfl ?_
                refine mm_cd (Y := (145, [(2, .inl x), (0, .inr (some 31)), (1, .inl s)], [.inl (N 38 (x.toNat)), .inr (some 31)], shW, (mm_f2 (mm_f2 (mm_f2 (mm_f2 (rd N a b c d e) 31 20 (x + 3)) 31 16 a) 31 17 b) 31 19 1), 0, 0)) rfl ⟨by omega, by omega⟩ ?_
                refine mm_go 2 (Y := (if (N 38 (x.toNat)) = 4 then 149 else 158, [(2, .inl x), (0, .inr (some 31)), (1, .inl s)], [.inr (some 31)], shW, (mm_f2 (mm_f2 (mm_f2 (mm_f2 (rd N a b c d e) 31 20 (x + 3)) 31 16 a) 31 17 b) 31 19 1), 0, 0)) rfl ?_
                refine mm_if (fun h23 => ?_) (fun h23 => ?_)
                · skip
                  refine mm_go 4 (Y := (155, [(2, .inl x), (0, .inr (some 31)), (1, .inl s)], [.inl (mm_wr (c + 1)), .inr (some 31)], shW, (mm_f2 (mm_f2 (mm_f2 (mm_f2 (rd N a b c d e) 31 20 (x + 3)) 31 16 a) 31 17 b) 31 19 1), 0, 0)) rfl ?_
                  rw [mm_wr_id (z := c + 1) (by omega) (by omega)]
                  refine mm_go 3 (Y := (168, [(2, .inl (mm_wr (x + 3))), (0, .inr (some 31)), (1, .inl s)], [], shW, (mm_f2 (mm_f2 (mm_f2 (mm_f2 (mm_f2 (rd N a b c d e) 31 20 (x + 3)) 31 16 a) 31 17 b) 31 19 1) 31 18 (c + 1)), 0, 0)) rfl ?_
                  rw [mm_wr_id (z := x + 3) (by omega) (by omega)]
                  refine mm_go 1 (Y := (27, [(2, .inl (x + 3)), (0, .inr (some 31)), (1, .inl s)], [], shW, (mm_f2 (mm_f2 (mm_f2 (mm_f2 (mm_f2 (rd N a b c d e) 31 20 (x + 3)) 31 16 a) 31 17 b) 31 19 1) 31 18 (c + 1)), 0, 0)) rfl ?_
                  simp only [rd_16, rd_17, rd_18, rd_19, rd_20]
                  rw [q1] at h2
                  rw [q0] at h3
                  rw [q0] at h15
                  rw [q0] at h22
                  rw [q0] at h23
                  exfalso; omega
                · skip
                  refine mm_go 4 (Y := (168, [(2, .inl (mm_wr (x + 3))), (0, .inr (some 31)), (1, .inl s)], [], shW, (mm_f2 (mm_f2 (mm_f2 (mm_f2 (mm_f2 (rd N a b c d e) 31 20 (x + 3)) 31 16 a) 31 17 b) 31 19 1) 31 18 c), 0, 0)) rfl ?_
                  rw [mm_wr_id (z := x + 3) (by omega) (by omega)]
                  refine mm_go 1 (Y := (27, [(2, .inl (x + 3)), (0, .inr (some 31)), (1, .inl s)], [], shW, (mm_f2 (mm_f2 (mm_f2 (mm_f2 (mm_f2 (rd N a b c d e) 31 20 (x + 3)) 31 16 a) 31 17 b) 31 19 1) 31 18 c), 0, 0)) rfl ?_
                  simp only [rd_16, rd_17, rd_18, rd_19, rd_20]
                  rw [q1] at h2
                  rw [q0] at h3
                  rw [q0] at h15
                  rw [q0] at h22
                  rw [q0] at h23
                  refine ih (i + 1) _ _ _ _ _ _ (by omega) (by omega) ?_ ?_ ?_ ?_ ?_
                  · simp [lg_k, q2, h2, h3, h15, h21, h22, h23, ← e1, ← e2, ← e3, ← e4, ← e5]
                  · simp [lg_d, q2, h2, h3, h15, h21, h22, h23, ← e1, ← e2, ← e3, ← e4, ← e5]
                  · simp [lg_u, q2, h2, h3, h15, h21, h22, h23, ← e1, ← e2, ← e3, ← e4, ← e5]
                  · simp [lg_r, q2, h2, h3, h15, h21, h22, h23, ← e1, ← e2, ← e3, ← e4, ← e5]
                  · simp [lg_e, q2, h2, h3, h15, h21, h22, h23, ← e1, ← e2, ← e3, ← e4, ← e5] <;> omega
              · skip
                refine mm_go 1 (Y := (135, [(2, .inl x), (0, .inr (some 31)), (1, .inl s)], [.inl 0, .inr (some 31)], shW, (mm_f2 (mm_f2 (mm_f2 (rd N a b c d e) 31 20 (x + 3)) 31 16 a) 31 17 b), 0, 0)) rfl ?_
                refine mm_cd (Y := (138, [(2, .inl x), (0, .inr (some 31)), (1, .inl s)], [], shW, (mm_f2 (mm_f2 (mm_f2 (mm_f2 (rd N a b c d e) 31 20 (x + 3)) 31 16 a) 31 17 b) 31 19 0), 0, 0)) rfl (Or.inl rfl) ?_
                refine mm_go 4 (Y := (144, [(2, .inl x), (0, .inr (some 31)), (1, .inl s)], [.inl x, .inr (some 38), .inr (some 31)], shW, (mm_f2 (mm_f2 (mm_f2 (mm_f2 (rd N a b c d e) 31 20 (x + 3)) 31 16 a) 31 17 b) 31 19 0), 0, 0)) rfl ?_
                refine mm_cd (Y := (145, [(2, .inl x), (0, .inr (some 31)), (1, .inl s)], [.inl (N 38 (x.toNat)), .inr (some 31)], shW, (mm_f2 (mm_f2 (mm_f2 (mm_f2 (rd N a b c d e) 31 20 (x + 3)) 31 16 a) 31 17 b) 31 19 0), 0, 0)) rfl ⟨by omega, by omega⟩ ?_
                refine mm_go 2 (Y := (if (N 38 (x.toNat)) = 4 then 149 else 158, [(2, .inl x), (0, .inr (some 31)), (1, .inl s)], [.inr (some 31)], shW, (mm_f2 (mm_f2 (mm_f2 (mm_f2 (rd N a b c d e) 31 20 (x + 3)) 31 16 a) 31 17 b) 31 19 0), 0, 0)) rfl ?_
                refine mm_if (fun h24 => ?_) (fun h24 => ?_)
                · skip
                  refine mm_go 4 (Y := (155, [(2, .inl x), (0, .inr (some 31)), (1, .inl s)], [.inl (mm_wr (c + 1)), .inr (some 31)], shW, (mm_f2 (mm_f2 (mm_f2 (mm_f2 (rd N a b c d e) 31 20 (x + 3)) 31 16 a) 31 17 b) 31 19 0), 0, 0)) rfl ?_
                  rw [mm_wr_id (z := c + 1) (by omega) (by omega)]
                  refine mm_go 3 (Y := (168, [(2, .inl (mm_wr (x + 3))), (0, .inr (some 31)), (1, .inl s)], [], shW, (mm_f2 (mm_f2 (mm_f2 (mm_f2 (mm_f2 (rd N a b c d e) 31 20 (x + 3)) 31 16 a) 31 17 b) 31 19 0) 31 18 (c + 1)), 0, 0)) rfl ?_
                  rw [mm_wr_id (z := x + 3) (by omega) (by omega)]
                  refine mm_go 1 (Y := (27, [(2, .inl (x + 3)), (0, .inr (some 31)), (1, .inl s)], [], shW, (mm_f2 (mm_f2 (mm_f2 (mm_f2 (mm_f2 (rd N a b c d e) 31 20 (x + 3)) 31 16 a) 31 17 b) 31 19 0) 31 18 (c + 1)), 0, 0)) rfl ?_
                  simp only [rd_16, rd_17, rd_18, rd_19, rd_20]
                  rw [q1] at h2
                  rw [q0] at h3
                  rw [q0] at h15
                  rw [q0] at h22
                  rw [q0] at h24
                  refine ih (i + 1) _ _ _ _ _ _ (by omega) (by omega) ?_ ?_ ?_ ?_ ?_
                  · simp [lg_k, q2, h2, h3, h15, h21, h22, h24, ← e1, ← e2, ← e3, ← e4, ← e5]
                  · simp [lg_d, q2, h2, h3, h15, h21, h22, h24, ← e1, ← e2, ← e3, ← e4, ← e5]
                  · simp [lg_u, q2, h2, h3, h15, h21, h22, h24, ← e1, ← e2, ← e3, ← e4, ← e5]
                  · simp [lg_r, q2, h2, h3, h15, h21, h22, h24, ← e1, ← e2, ← e3, ← e4, ← e5]
                  · simp [lg_e, q2, h2, h3, h15, h21, h22, h24, ← e1, ← e2, ← e3, ← e4, ← e5] <;> omega
                · skip
                  refine mm_go 4 (Y := (168, [(2, .inl (mm_wr (x + 3))), (0, .inr (some 31)), (1, .inl s)], [], shW, (mm_f2 (mm_f2 (mm_f2 (mm_f2 (mm_f2 (rd N a b c d e) 31 20 (x + 3)) 31 16 a) 31 17 b) 31 19 0) 31 18 c), 0, 0)) rfl ?_
                  rw [mm_wr_id (z := x + 3) (by omega) (by omega)]
                  refine mm_go 1 (Y := (27, [(2, .inl (x + 3)), (0, .inr (some 31)), (1, .inl s)], [], shW, (mm_f2 (mm_f2 (mm_f2 (mm_f2 (mm_f2 (rd N a b c d e) 31 20 (x + 3)) 31 16 a) 31 17 b) 31 19 0) 31 18 c), 0, 0)) rfl ?_
                  simp only [rd_16, rd_17, rd_18, rd_19, rd_20]
                  rw [q1] at h2
                  rw [q0] at h3
                  rw [q0] at h15
                  rw [q0] at h22
                  rw [q0] at h24
                  refine ih (i + 1) _ _ _ _ _ _ (by omega) (by omega) ?_ ?_ ?_ ?_ ?_
                  · simp [lg_k, q2, h2, h3, h15, h21, h22, h24, ← e1, ← e2, ← e3, ← e4, ← e5]
                  · simp [lg_d, q2, h2, h3, h15, h21, h22, h24, ← e1, ← e2, ← e3, ← e4, ← e5]
                  · simp [lg_u, q2, h2, h3, h15, h21, h22, h24, ← e1, ← e2, ← e3, ← e4, ← e5]
                  · simp [lg_r, q2, h2, h3, h15, h21, h22, h24, ← e1, ← e2, ← e3, ← e4, ← e5]
                  · simp [lg_e, q2, h2, h3, h15, h21, h22, h24, ← e1, ← e2, ← e3, ← e4, ← e5] <;> omega
            · skip
              refine mm_go 2 (Y := (135, [(2, .inl x), (0, .inr (some 31)), (1, .inl s)], [.inl 1, .inr (some 31)], shW, (mm_f2 (mm_f2 (mm_f2 (rd N a b c d e) 31 20 (x + 3)) 31 16 a) 31 17 b), 0, 0)) rfl ?_
              refine mm_cd (Y := (138, [(2, .inl x), (0, .inr (some 31)), (1, .inl s)], [], shW, (mm_f2 (mm_f2 (mm_f2 (mm_f2 (rd N a b c d e) 31 20 (x + 3)) 31 16 a) 31 17 b) 31 19 1), 0, 0)) rfl (Or.inr rfl) ?_
              refine mm_go 4 (Y := (144, [(2, .inl x), (0, .inr (some 31)), (1, .inl s)], [.inl x, .inr (some 38), .inr (some 31)], shW, (mm_f2 (mm_f2 (mm_f2 (mm_f2 (rd N a b c d e) 31 20 (x + 3)) 31 16 a) 31 17 b) 31 19 1), 0, 0)) rfl ?_
              refine mm_cd (Y := (145, [(2, .inl x), (0, .inr (some 31)), (1, .inl s)], [.inl (N 38 (x.toNat)), .inr (some 31)], shW, (mm_f2 (mm_f2 (mm_f2 (mm_f2 (rd N a b c d e) 31 20 (x + 3)) 31 16 a) 31 17 b) 31 19 1), 0, 0)) rfl ⟨by omega, by omega⟩ ?_
              refine mm_go 2 (Y := (if (N 38 (x.toNat)) = 4 then 149 else 158, [(2, .inl x), (0, .inr (some 31)), (1, .inl s)], [.inr (some 31)], shW, (mm_f2 (mm_f2 (mm_f2 (mm_f2 (rd N a b c d e) 31 20 (x + 3)) 31 16 a) 31 17 b) 31 19 1), 0, 0)) rfl ?_
              refine mm_if (fun h25 => ?_) (fun h25 => ?_)
              · skip
                refine mm_go 4 (Y := (155, [(2, .inl x), (0, .inr (some 31)), (1, .inl s)], [.inl (mm_wr (c + 1)), .inr (some 31)], shW, (mm_f2 (mm_f2 (mm_f2 (mm_f2 (rd N a b c d e) 31 20 (x + 3)) 31 16 a) 31 17 b) 31 19 1), 0, 0)) rfl ?_
                rw [mm_wr_id (z := c + 1) (by omega) (by omega)]
                refine mm_go 3 (Y := (168, [(2, .inl (mm_wr (x + 3))), (0, .inr (some 31)), (1, .inl s)], [], shW, (mm_f2 (mm_f2 (mm_f2 (mm_f2 (mm_f2 (rd N a b c d e) 31 20 (x + 3)) 31 16 a) 31 17 b) 31 19 1) 31 18 (c + 1)), 0, 0)) rfl ?_
                rw [mm_wr_id (z := x + 3) (by omega) (by omega)]
                refine mm_go 1 (Y := (27, [(2, .inl (x + 3)), (0, .inr (some 31)), (1, .inl s)], [], shW, (mm_f2 (mm_f2 (mm_f2 (mm_f2 (mm_f2 (rd N a b c d e) 31 20 (x + 3)) 31 16 a) 31 17 b) 31 19 1) 31 18 (c + 1)), 0, 0)) rfl ?_
                simp only [rd_16, rd_17, rd_18, rd_19, rd_20]
                rw [q1] at h2
                rw [q0] at h3
                rw [q0] at h15
                rw [q0] at h25
                refine ih (i + 1) _ _ _ _ _ _ (by omega) (by omega) ?_ ?_ ?_ ?_ ?_
                · simp [lg_k, q2, h2, h3, h15, h21, h25, ← e1, ← e2, ← e3, ← e4, ← e5]
                · simp [lg_d, q2, h2, h3, h15, h21, h25, ← e1, ← e2, ← e3, ← e4, ← e5]
                · simp [lg_u, q2, h2, h3, h15, h21, h25, ← e1, ← e2, ← e3, ← e4, ← e5]
                · simp [lg_r, q2, h2, h3, h15, h21, h25, ← e1, ← e2, ← e3, ← e4, ← e5]
                · simp [lg_e, q2, h2, h3, h15, h21, h25, ← e1, ← e2, ← e3, ← e4, ← e5] <;> omega
              · skip
                refine mm_go 4 (Y := (168, [(2, .inl (mm_wr (x + 3))), (0, .inr (some 31)), (1, .inl s)], [], shW, (mm_f2 (mm_f2 (mm_f2 (mm_f2 (mm_f2 (rd N a b c d e) 31 20 (x + 3)) 31 16 a) 31 17 b) 31 19 1) 31 18 c), 0, 0)) rfl ?_
                rw [mm_wr_id (z := x + 3) (by omega) (by omega)]
                refine mm_go 1 (Y := (27, [(2, .inl (x + 3)), (0, .inr (some 31)), (1, .inl s)], [], shW, (mm_f2 (mm_f2 (mm_f2 (mm_f2 (mm_f2 (rd N a b c d e) 31 20 (x + 3)) 31 16 a) 31 17 b) 31 19 1) 31 18 c), 0, 0)) rfl ?_
                simp only [rd_16, rd_17, rd_18, rd_19, rd_20]
                rw [q1] at h2
                rw [q0] at h3
                rw [q0] at h15
                rw [q0] at h25
                refine ih (i + 1) _ _ _ _ _ _ (by omega) (by omega) ?_ ?_ ?_ ?_ ?_
                · simp [lg_k, q2, h2, h3, h15, h21, h25, ← e1, ← e2, ← e3, ← e4, ← e5]
                · simp [lg_d, q2, h2, h3, h15, h21, h25, ← e1, ← e2, ← e3, ← e4, ← e5]
                · simp [lg_u, q2, h2, h3, h15, h21, h25, ← e1, ← e2, ← e3, ← e4, ← e5]
                · simp [lg_r, q2, h2, h3, h15, h21, h25, ← e1, ← e2, ← e3, ← e4, ← e5]
                · simp [lg_e, q2, h2, h3, h15, h21, h25, ← e1, ← e2, ← e3, ← e4, ← e5] <;> omega
      · skip
        refine mm_go 1 (Y := (168, [(2, .inl (mm_wr (x + 3))), (0, .inr (some 31)), (1, .inl s)], [], shW, (rd N a b c d e), 0, 0)) rfl ?_
        rw [mm_wr_id (z := x + 3) (by omega) (by omega)]
        refine mm_go 1 (Y := (27, [(2, .inl (x + 3)), (0, .inr (some 31)), (1, .inl s)], [], shW, (rd N a b c d e), 0, 0)) rfl ?_
        rw [q1] at h2
        refine ih (i + 1) _ _ _ _ _ _ (by omega) (by omega) ?_ ?_ ?_ ?_ ?_
        · simp [lg_k, q2, h2, ← e1, ← e2, ← e3, ← e4, ← e5]
        · simp [lg_d, q2, h2, ← e1, ← e2, ← e3, ← e4, ← e5]
        · simp [lg_u, q2, h2, ← e1, ← e2, ← e3, ← e4, ← e5]
        · simp [lg_r, q2, h2, ← e1, ← e2, ← e3, ← e4, ← e5]
        · simp [lg_e, q2, h2, ← e1, ← e2, ← e3, ← e4, ← e5] <;> omega
theorem c_M_read {L : Nat} {xs : Nat → Int} (N : mm_N) (s : Int) (hw : 0 ≤ N 31 8 ∧ N 31 8 < 289) : mm_Cl mm_pf mm_bd L xs mm_pr 1 90 [.inr (some 31), .inl s] shW N (fun r sh N' => r = none ∧ sh = shW ∧ rd N (kq N s) (dq N s) (uq N s) (rq N s) (zq N s) = N') := by
  refine mm_start p_M_read ?_
  refine mm_go 11 (Y := (17, [(0, .inr (some 31)), (1, .inl s)], [.inl 0, .inr (some 31)], shW, (mm_f2 (mm_f2 (mm_f2 N 31 16 (-1)) 31 17 0) 31 18 0), 0, 0)) rfl ?_
  refine mm_cd (Y := (20, [(0, .inr (some 31)), (1, .inl s)], [], shW, (mm_f2 (mm_f2 (mm_f2 (mm_f2 N 31 16 (-1)) 31 17 0) 31 18 0) 31 19 0), 0, 0)) rfl (Or.inl rfl) ?_
  refine mm_go 5 (Y := (27, [(2, .inl 0), (0, .inr (some 31)), (1, .inl s)], [], shW, (mm_f2 (mm_f2 (mm_f2 (mm_f2 (mm_f2 N 31 16 (-1)) 31 17 0) 31 18 0) 31 19 0) 31 20 0), 0, 0)) rfl ?_
  rw [rd_0]
  exact lp_M_read N s hw (N 31 8 / 3).toNat 0 0 _ _ _ _ _ (by omega) rfl rfl rfl rfl rfl rfl
def mV (N : mm_N) : Prop := ∀ s, kq N s < 4
theorem du_b {N : mm_N} (hw : 0 ≤ N 31 8 ∧ N 31 8 < 289) (s : Int) : (0 ≤ dq N s ∧ dq N s < 1000) ∧ (0 ≤ uq N s ∧ uq N s < 1000) ∧ (rq N s = 0 ∨ rq N s = 1) := by
  have h1 := lg_d_0 (N 38) s (N 31 8 / 3).toNat
  have h2 := lg_u_0 (N 38) s (N 31 8 / 3).toNat
  have h3 := lg_r_0 (N 38) s (N 31 8 / 3).toNat
  unfold dq uq rq
  exact ⟨by omega, by omega, h3⟩
def n_M_sendNext (N : mm_N) (s : Int) : mm_N := if (r_M_waits (rd N (kq N s) (dq N s) (uq N s) (rq N s) (zq N s))) = 0 then (rd N (kq N s) (dq N s) (uq N s) (rq N s) (zq N s)) else (if (rq N s) = 0 then (n_M_send (rd N (kq N s) (dq N s) (uq N s) (rq N s) (zq N s)) s (r_M_nextStep (rd N (kq N s) (dq N s) (uq N s) (rq N s) (zq N s))) 0 0) else (n_M_send (rd N (kq N s) (dq N s) (uq N s) (rq N s) (zq N s)) s (r_M_nextStep (rd N (kq N s) (dq N s) (uq N s) (rq N s) (zq N s))) 1 0))
theorem c_M_sendNext {L : Nat} {xs : Nat → Int} (N : mm_N) (s : Int) (hw : 0 ≤ N 31 8 ∧ N 31 8 < 289) (hv : mV N) (hc : 0 ≤ N 31 10 ∧ N 31 10 < 25) : mm_Cl mm_pf mm_bd L xs mm_pr 3 99 [.inr (some 31), .inl s] shW N (fun r sh N' => r = none ∧ sh = shW ∧ n_M_sendNext N s = N') := by
  refine mm_start p_M_sendNext ?_
  have g := hv s
  have k := du_b hw s
  refine mm_go 2 (Y := (2, [(0, .inr (some 31)), (1, .inl s)], [.inl s, .inr (some 31)], shW, N, 0, 0)) rfl ?_
  refine mm_ca rfl ⟨⟨_, rfl⟩, rfl, Nat.le_of_ble_eq_true rfl, Nat.le_of_ble_eq_true rfl⟩ (d' := 1) (by decide) (c_M_read N s ⟨by first | omega | (simp [mm_f2_at, mm_f0_at]; omega), by first | omega | (simp [mm_f2_at, mm_f0_at]; omega)⟩) ?_
  rintro _ _ _ ⟨rfl, rfl, rfl⟩
  refine mm_go 0 (Y := (5, [(0, .inr (some 31)), (1, .inl s)], [], shW, (rd N (kq N s) (dq N s) (uq N s) (rq N s) (zq N s)), 0, 0)) rfl ?_
  refine mm_go 1 (Y := (6, [(0, .inr (some 31)), (1, .inl s)], [.inr (some 31)], shW, (rd N (kq N s) (dq N s) (uq N s) (rq N s) (zq N s)), 0, 0)) rfl ?_
  refine mm_ca rfl ⟨⟨_, rfl⟩, rfl, Nat.le_of_ble_eq_true rfl, Nat.le_of_ble_eq_true rfl⟩ (d' := 2) (by decide) (c_M_waits (rd N (kq N s) (dq N s) (uq N s) (rq N s) (zq N s))  g) ?_
  rintro _ _ _ ⟨rfl, rfl, rfl⟩
  refine mm_go 0 (Y := (9, [(0, .inr (some 31)), (1, .inl s)], [.inl (r_M_waits (rd N (kq N s) (dq N s) (uq N s) (rq N s) (zq N s)))], shW, (rd N (kq N s) (dq N s) (uq N s) (rq N s) (zq N s)), 0, 0)) rfl ?_
  refine mm_go 1 (Y := (if (r_M_waits (rd N (kq N s) (dq N s) (uq N s) (rq N s) (zq N s))) = 0 then 34 else 12, [(0, .inr (some 31)), (1, .inl s)], [], shW, (rd N (kq N s) (dq N s) (uq N s) (rq N s) (zq N s)), 0, 0)) rfl ?_
  refine mm_if (fun h1 => ?_) (fun h1 => ?_)
  · skip
    exact mm_rt rfl rfl ⟨rfl, rfl, by unfold n_M_sendNext; rw [if_pos h1]⟩
  · skip
    refine mm_go 3 (Y := (15, [(0, .inr (some 31)), (1, .inl s)], [.inr (some 31), .inl s, .inr (some 31)], shW, (rd N (kq N s) (dq N s) (uq N s) (rq N s) (zq N s)), 0, 0)) rfl ?_
    refine mm_ca rfl ⟨⟨_, rfl⟩, rfl, Nat.le_of_ble_eq_true rfl, Nat.le_of_ble_eq_true rfl⟩ (d' := 1) (by decide) (c_M_nextStep (rd N (kq N s) (dq N s) (uq N s) (rq N s) (zq N s))  k.1 k.2.1) ?_
    rintro _ _ _ ⟨rfl, rfl, rfl⟩
    refine mm_go 0 (Y := (18, [(0, .inr (some 31)), (1, .inl s)], [.inl (r_M_nextStep (rd N (kq N s) (dq N s) (uq N s) (rq N s) (zq N s))), .inl s, .inr (some 31)], shW, (rd N (kq N s) (dq N s) (uq N s) (rq N s) (zq N s)), 0, 0)) rfl ?_
    refine mm_go 3 (Y := (if (rq N s) = 0 then 29 else 25, [(0, .inr (some 31)), (1, .inl s)], [.inl (r_M_nextStep (rd N (kq N s) (dq N s) (uq N s) (rq N s) (zq N s))), .inl s, .inr (some 31)], shW, (rd N (kq N s) (dq N s) (uq N s) (rq N s) (zq N s)), 0, 0)) rfl ?_
    refine mm_if (fun h2 => ?_) (fun h2 => ?_)
    · skip
      refine mm_go 2 (Y := (31, [(0, .inr (some 31)), (1, .inl s)], [.inl 0, .inl 0, .inl (r_M_nextStep (rd N (kq N s) (dq N s) (uq N s) (rq N s) (zq N s))), .inl s, .inr (some 31)], shW, (rd N (kq N s) (dq N s) (uq N s) (rq N s) (zq N s)), 0, 0)) rfl ?_
      refine mm_ca rfl ⟨⟨_, rfl⟩, rfl, Nat.le_of_ble_eq_true rfl, Nat.le_of_ble_eq_true rfl⟩ (d' := 1) (by decide) (c_M_send (rd N (kq N s) (dq N s) (uq N s) (rq N s) (zq N s)) s (r_M_nextStep (rd N (kq N s) (dq N s) (uq N s) (rq N s) (zq N s))) 0 0 hc) ?_
      rintro _ _ _ ⟨rfl, rfl, rfl⟩
      refine mm_go 0 (Y := (34, [(0, .inr (some 31)), (1, .inl s)], [], shW, (n_M_send (rd N (kq N s) (dq N s) (uq N s) (rq N s) (zq N s)) s (r_M_nextStep (rd N (kq N s) (dq N s) (uq N s) (rq N s) (zq N s))) 0 0), 0, 0)) rfl ?_
      exact mm_rt rfl rfl ⟨rfl, rfl, by unfold n_M_sendNext; rw [if_neg h1, if_pos h2]⟩
    · skip
      refine mm_go 3 (Y := (31, [(0, .inr (some 31)), (1, .inl s)], [.inl 0, .inl 1, .inl (r_M_nextStep (rd N (kq N s) (dq N s) (uq N s) (rq N s) (zq N s))), .inl s, .inr (some 31)], shW, (rd N (kq N s) (dq N s) (uq N s) (rq N s) (zq N s)), 0, 0)) rfl ?_
      refine mm_ca rfl ⟨⟨_, rfl⟩, rfl, Nat.le_of_ble_eq_true rfl, Nat.le_of_ble_eq_true rfl⟩ (d' := 1) (by decide) (c_M_send (rd N (kq N s) (dq N s) (uq N s) (rq N s) (zq N s)) s (r_M_nextStep (rd N (kq N s) (dq N s) (uq N s) (rq N s) (zq N s))) 1 0 hc) ?_
      rintro _ _ _ ⟨rfl, rfl, rfl⟩
      refine mm_go 0 (Y := (34, [(0, .inr (some 31)), (1, .inl s)], [], shW, (n_M_send (rd N (kq N s) (dq N s) (uq N s) (rq N s) (zq N s)) s (r_M_nextStep (rd N (kq N s) (dq N s) (uq N s) (rq N s) (zq N s))) 1 0), 0, 0)) rfl ?_
      exact mm_rt rfl rfl ⟨rfl, rfl, by unfold n_M_sendNext; rw [if_neg h1, if_neg h2]⟩
