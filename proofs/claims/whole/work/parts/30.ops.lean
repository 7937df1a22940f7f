/-! messages put, sent, taken -/
theorem RL_put {C M : mm_N} {z s t u w : Int} (h : RL C M) (hg : gm C z s t u w) : RL (n_L_put C z) (n_M_send M s t u w) := by
  have h' := h
  obtain ⟨hA, hB, hC, hD, hE, hV, hS, ⟨g1, g2, g3⟩, hH, hI⟩ := h
  unfold n_L_put n_M_send
  by_cases hc : C 14 1 < 24
  · rw [if_pos hc, if_neg (by omega)]
    refine ⟨hA, hB, hC, hD, hE, hV, gS_mv hV hS rfl rfl rfl rfl (fun i hi => by rw [mm_f2_row (by omega), mm_f2_row (by omega)]), ⟨?_, ?_, fun j hj => ?_⟩, hH, hI⟩
    · show M 31 10 + 1 = C 14 1 + 1
      rw [g1]
    · show 0 ≤ C 14 1 + 1 ∧ C 14 1 + 1 ≤ 24
      omega
    · have hj : (j : Int) < C 14 1 + 1 := hj
      show gm C (mm_f2 C 15 (C 14 1).toNat z 15 j) (mm_f2 M 39 (M 31 10).toNat s 39 j) (mm_f2 M 40 (M 31 10).toNat t 40 j) (mm_f2 M 41 (M 31 10).toNat u 41 j) (mm_f2 M 42 (M 31 10).toNat w 42 j)
      rw [f2_j, f2_j, f2_j, f2_j, f2_j, g1]
      by_cases hjc : j = (C 14 1).toNat
      · rw [if_pos hjc, if_pos hjc, if_pos hjc, if_pos hjc, if_pos hjc]
        exact hg
      · rw [if_neg hjc, if_neg hjc, if_neg hjc, if_neg hjc, if_neg hjc]
        exact g3 j (by omega)
  · rw [if_neg hc, if_pos (by omega)]
    exact h'
theorem nd_at {C : mm_N} (s t : Int) {k : Int} (hk : k = lg_k (C 17) s (mC C)) : r_K_nodeAt C (4 * k + t) = nd C s t := by
  unfold r_K_nodeAt nd
  rw [hk]
/-- what is known of a waiting saga -/
theorem wt_all {C M : mm_N} (h : RL C M) {s : Int} (hs : 0 ≤ s ∧ s < C 0 6) (hw : ¬ r_D_isWaiting C s = 0) : s < lg_cn (C 17) (sC C) ∧ 0 ≤ r_S_nextStep C s.toNat ∧ r_S_nextStep C s.toNat < C 2 (lg_k (C 17) s (mC C)).toNat ∧ r_S_isOver C s.toNat = 0 := by
  obtain ⟨hA, hB, hC, hD, hE, hV, hS, hG, hH, hI⟩ := h
  obtain ⟨e1, e2, e3, e4, e5, e6⟩ := hE
  have hcn := hS.1.1
  obtain ⟨n, rfl⟩ : ∃ n : Nat, s = (n : Int) := ⟨s.toNat, by omega⟩
  have hn : ((n : Int)).toNat = n := by omega
  have hsn : (n : Int) < lg_cn (C 17) (mC C) := by omega
  have h12 := lg_cn_12 hV.1
  obtain ⟨c0, c1, c2, c3, c4⟩ := hS.1.2 n hsn
  have hSn := hS.2 n (by omega)
  obtain ⟨i1, i2, i3, i4, i5⟩ := lg_some hs.1 hV.1 hsn
  rw [hn]
  unfold r_D_isWaiting r_G_isSafe at hw
  rw [hn] at hw
  by_cases h1 : r_S_isOver C n = 0
  · rw [if_pos h1] at hw
    have h2 : ¬ C 16 2 < 3 * (C (19 + n) 4 + 1) := by
      intro z
      rw [if_pos z, if_pos rfl] at hw
      exact hw rfl
    refine ⟨?_, ?_⟩
    · by_cases hx : (n : Int) < lg_cn (C 17) (sC C)
      · exact hx
      · have hle : sC C ≤ mC C := by unfold sC mC; omega
        have := lg_e_cn hs.1 (by omega) hle hV.1 hsn
        have hsc : (sC C : Int) = C 16 2 / 3 := by unfold sC; omega
        omega
    · rw [← c0]
      unfold r_S_isOver at h1
      unfold r_S_nextStep
      by_cases h3 : C (19 + n) 3 = 0
      · rw [if_pos h3] at h1 ⊢
        have h4 : ¬ C (19 + n) 1 = C 2 (C (19 + n) 0).toNat := by
          intro z
          rw [if_pos z] at h1
          omega
        refine ⟨by omega, by omega, ?_⟩
        unfold r_S_isOver
        rw [if_pos h3]
        exact h1
      · rw [if_neg h3] at h1 ⊢
        have h4 : ¬ C (19 + n) 2 = C (19 + n) 1 := by
          intro z
          rw [if_pos z] at h1
          omega
        refine ⟨by omega, by omega, ?_⟩
        unfold r_S_isOver
        rw [if_neg h3]
        exact h1
  · rw [if_neg h1] at hw
    exact absurd rfl hw
theorem RL_send {C M : mm_N} (h : RL C M) {s : Int} (hs : 0 ≤ s ∧ s < C 0 6) : RL (n_D_sendIfWaiting C s) (n_M_sendNext M s) := by
  obtain ⟨w1, w2, w3, w4, w5, w6, w7⟩ := wq h hs
  have hcn := h.2.2.2.2.2.2.1.1.1
  unfold n_D_sendIfWaiting n_M_sendNext
  rw [w1, w2, w4]
  by_cases hw : r_D_isWaiting C s = 0
  · rw [if_pos hw, if_pos hw]
    exact RL_rd h
  · rw [if_neg hw, if_neg hw]
    obtain ⟨a1, a2, a3, a4⟩ := wt_all h hs hw
    have hk : C (19 + s.toNat) 0 = lg_k (C 17) s (mC C) := by rw [← w5]; exact (qL h.2.2.2.2.1 s).1
    unfold r_D_nextRequest
    by_cases h3 : C (19 + s.toNat) 3 = 0
    · rw [if_pos h3, if_pos h3]
      exact RL_put (RL_rd h) ⟨⟨hs.1, a1⟩, ⟨a2, a3⟩, by omega, by omega, by rw [nd_at s _ hk]; omega⟩
    · rw [if_neg h3, if_neg h3]
      exact RL_put (RL_rd h) ⟨⟨hs.1, a1⟩, ⟨a2, a3⟩, by omega, by omega, by rw [nd_at s _ hk]; omega⟩
abbrev tk (C : mm_N) (k : Int) : mm_N := mm_f0 (mm_f2 C 14 1 ((C 14 1) - 1)) 15 (mm_cp (C 15) (C 15) (k + 1).toNat k.toNat (((C 14 1) - 1) - k).toNat)
theorem RL_take {C M : mm_N} (h : RL C M) {k : Int} (hk : 0 ≤ k ∧ k < C 14 1) : RL (tk C k) (rmv M k.toNat (M 31 10 - 1).toNat) := by
  obtain ⟨hA, hB, hC, hD, hE, hV, hS, ⟨g1, g2, g3⟩, hH, hI⟩ := h
  refine ⟨hA, hB, hC, hD, hE, hV, gS_mv hV hS rfl rfl rfl rfl (fun i hi => by unfold tk; rw [mm_f0_ne (by omega), mm_f2_row (by omega)]), ⟨?_, ?_, fun j hj => ?_⟩, hH, hI⟩
  · show M 31 10 - 1 = C 14 1 - 1
    rw [g1]
  · show 0 ≤ C 14 1 - 1 ∧ C 14 1 - 1 ≤ 24
    omega
  · have hj : (j : Int) < C 14 1 - 1 := hj
    show gm C (mm_cp (C 15) (C 15) (k + 1).toNat k.toNat (((C 14 1) - 1) - k).toNat j) (sf (M 39) k.toNat (M 31 10 - 1).toNat j) (sf (M 40) k.toNat (M 31 10 - 1).toNat j) (sf (M 41) k.toNat (M 31 10 - 1).toNat j) (sf (M 42) k.toNat (M 31 10 - 1).toNat j)
    unfold mm_cp sf
    rw [g1]
    by_cases hjk : k.toNat ≤ j
    · rw [if_pos (by omega), if_pos (by omega), if_pos (by omega), if_pos (by omega), if_pos (by omega), show (k + 1).toNat + (j - k.toNat) = j + 1 by omega]
      exact g3 (j + 1) (by omega)
    · rw [if_neg (by omega), if_neg (by omega), if_neg (by omega), if_neg (by omega), if_neg (by omega)]
      exact g3 j (by omega)
/-- a pair of calls out of its parts -/
theorem op_mk {L : Nat} {xs : Nat → Int} {yc ym d1 d2 : Nat} {as : List mm_V} {N N1 N2 : mm_N} {rc rm : Int} (e1 : d1 ≤ 6) (e2 : d2 ≤ 6) (hc : mm_Cl mm_pf mm_bd L xs mm_pr d1 yc (.inr (some 0) :: as) shW N (fun r sh N' => r = some (.inl rc) ∧ sh = shW ∧ N1 = N')) (hm : mm_Cl mm_pf mm_bd L xs mm_pr d2 ym (.inr (some 31) :: as) shW N1 (fun r sh N' => r = some (.inl rm) ∧ sh = shW ∧ N2 = N')) (hr : rc = rm) (hf : ∀ a, a < 31 → N2 a = N1 a) (hR : RL N1 N2) : opOK L xs (fun N => RL N N) yc ym as N := by
  refine mm_Cl_up mm_pf mm_bd L xs mm_pr e1 _ _ _ _ _ _ ?_ hc
  rintro r sh N' ⟨rfl, rfl, rfl⟩
  refine ⟨rfl, rc, rfl, ?_⟩
  refine mm_Cl_up mm_pf mm_bd L xs mm_pr e2 _ _ _ _ _ _ ?_ hm
  rintro r sh N' ⟨rfl, rfl, rfl⟩
  exact ⟨by rw [hr], rfl, RL_lo hf hR⟩
theorem isB {N : mm_N} {v w : Int} : r_D_isBelow N v w = 0 ↔ ¬ (0 ≤ v ∧ v < w) := by
  unfold r_D_isBelow
  constructor
  · intro h
    split at h <;> (try split at h) <;> omega
  · intro h
    split
    · rfl
    · rw [if_neg (by omega)]
theorem isM {N : mm_N} {k : Int} : r_M_isMessage N k = 0 ↔ ¬ (0 ≤ k ∧ k < N 31 10) := by
  unfold r_M_isMessage
  constructor
  · intro h
    split at h <;> (try split at h) <;> omega
  · intro h
    split
    · rfl
    · rw [if_neg (by omega)]
