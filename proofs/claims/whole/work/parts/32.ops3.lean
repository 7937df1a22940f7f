/-! adding steps, supplies, answers counted, messages shown -/
theorem cn_sm {c f : Nat → Int} {n m : Nat} (h : n ≤ m) : lg_cn f n ≤ lg_cn f m := lg_cn_mono f h
theorem sC_le {C M : mm_N} (hE : gE C M) : sC C ≤ mC C := by
  obtain ⟨e1, e2, e3, e4, e5, e6⟩ := hE
  unfold sC mC
  omega
/-- what is known of a message's or an answer's saga and step -/
theorem sb {C M : mm_N} (h : RL C M) {s t : Int} (h0 : 0 ≤ s) (hs : s < lg_cn (C 17) (sC C)) (ht : 0 ≤ t ∧ t < C 2 (lg_k (C 17) s (mC C)).toNat) : s < 12 ∧ s < C 0 6 ∧ t < 4 ∧ (0 ≤ lg_k (C 17) s (mC C) ∧ lg_k (C 17) s (mC C) < 4) ∧ kq M s = lg_k (C 17) s (mC C) ∧ r_M_nodeOf M s t = nd C s t ∧ (nd C s t = 0 ∨ nd C s t = 1) := by
  obtain ⟨hA, hB, hC, hD, hE, hV, hS, hG, hH, hI⟩ := h
  have h1 := lg_cn_mono (C 17) (sC_le hE)
  have h2 := lg_cn_12 hV.1
  have h3 := hS.1.1
  have hsm : s < lg_cn (C 17) (mC C) := by omega
  have hf := (lg_some h0 hV.1 hsm).1
  have hk := hA.1.1 (lg_k (C 17) s (mC C)).toNat (by omega)
  have q1 := (qL hE s).1
  refine ⟨by omega, by omega, by omega, ⟨hf.1, hf.2.1⟩, q1, ?_, ?_⟩
  · unfold r_M_nodeOf nd
    rw [q1, (hA.2.2 _ (by omega)).1]
  · unfold nd
    split
    · exact Or.inr rfl
    · exact Or.inl rfl
theorem RL_add {N M : mm_N} {k o t v : Int} (h1 : RL N M) (k1 : 0 ≤ k ∧ k < 4) (k2 : 0 ≤ o ∧ o < 3) (k3 : 0 ≤ t ∧ t < 8) (hb1 : N 0 7 = 0) (hb2 : ¬ N 2 k.toNat = 4) : RL (mm_f2 (mm_f2 (mm_f2 (mm_f2 N 3 (4 * k + N 2 k.toNat).toNat o) 4 (4 * k + N 2 k.toNat).toNat t) 5 (4 * k + N 2 k.toNat).toNat v) 2 k.toNat (N 2 k.toNat + 1)) (mm_f2 (mm_f2 (mm_f2 (mm_f2 M 33 (4 * k + N 2 k.toNat).toNat o) 34 (4 * k + N 2 k.toNat).toNat t) 35 (4 * k + N 2 k.toNat).toNat v) 32 k.toNat (N 2 k.toNat + 1)) := by
  obtain ⟨hA1, hB1, hC1, hD1, hE1, hV1, hS1, hG1, hH1, hI1⟩ := h1
  have w0 : N 16 1 = 0 := hV1.2.2.1 hb1
  have hm0 : mC N = 0 := by unfold mC; rw [w0]; rfl
  have hs0 : sC N = 0 := by have := sC_le hE1; omega
  have hc0 : lg_cn (N 17) (sC N) = 0 := by rw [hs0]; rfl
  refine ⟨⟨⟨fun j hj => ?_, fun p hp => ?_⟩, fun j hj => ?_, fun p hp => ?_⟩, hB1, hC1, hD1, hE1, ⟨?_, hV1.2⟩, ⟨?_, fun i hi => ?_⟩, ⟨hG1.1, hG1.2.1, fun j hj => ?_⟩, fun j hj => ?_, hI1⟩
  · show 0 ≤ mm_f2 N 2 k.toNat (N 2 k.toNat + 1) 2 j ∧ mm_f2 N 2 k.toNat (N 2 k.toNat + 1) 2 j ≤ 4
    rw [f2_j]
    have := hA1.1.1 j hj
    have := hA1.1.1 k.toNat (by omega)
    split <;> omega
  · show (0 ≤ mm_f2 N 3 (4 * k + N 2 k.toNat).toNat o 3 p ∧ mm_f2 N 3 (4 * k + N 2 k.toNat).toNat o 3 p ≤ 2) ∧ 0 ≤ mm_f2 N 4 (4 * k + N 2 k.toNat).toNat t 4 p ∧ mm_f2 N 4 (4 * k + N 2 k.toNat).toNat t 4 p < 8
    rw [f2_j, f2_j]
    have := hA1.1.2 p hp
    split <;> omega
  · show mm_f2 M 32 k.toNat (N 2 k.toNat + 1) 32 j = mm_f2 N 2 k.toNat (N 2 k.toNat + 1) 2 j
    rw [f2_j, f2_j, hA1.2.1 j hj]
  · show mm_f2 M 33 (4 * k + N 2 k.toNat).toNat o 33 p = mm_f2 N 3 (4 * k + N 2 k.toNat).toNat o 3 p ∧ mm_f2 M 34 (4 * k + N 2 k.toNat).toNat t 34 p = mm_f2 N 4 (4 * k + N 2 k.toNat).toNat t 4 p ∧ mm_f2 M 35 (4 * k + N 2 k.toNat).toNat v 35 p = mm_f2 N 5 (4 * k + N 2 k.toNat).toNat v 5 p
    obtain ⟨x1, x2, x3⟩ := hA1.2.2 p hp
    rw [f2_j, f2_j, f2_j, f2_j, f2_j, f2_j, x1, x2, x3]
    exact ⟨rfl, rfl, rfl⟩
  · show lg_va _ (N 17) (mC N)
    rw [hm0]
    trivial
  · have hcc := hS1.1
    show cC _ (N 17) (mC N)
    rw [hm0] at hcc ⊢
    exact ⟨hcc.1, fun i hi => absurd hi (by simp [lg_cn])⟩
  · have e19 : mm_f2 (mm_f2 (mm_f2 (mm_f2 N 3 (4 * k + N 2 k.toNat).toNat o) 4 (4 * k + N 2 k.toNat).toNat t) 5 (4 * k + N 2 k.toNat).toNat v) 2 k.toNat (N 2 k.toNat + 1) (19 + i) = N (19 + i) := by rw [mm_f2_row (by omega), mm_f2_row (by omega), mm_f2_row (by omega), mm_f2_row (by omega)]
    rw [e19, f2_j]
    obtain ⟨s1, s2, s3, s4⟩ := hS1.2 i hi
    refine ⟨s1, ⟨s2.1, s2.2.1, ?_⟩, s3, s4⟩
    have : mm_f2 (mm_f2 (mm_f2 N 3 (4 * k + N 2 k.toNat).toNat o) 4 (4 * k + N 2 k.toNat).toNat t) 5 (4 * k + N 2 k.toNat).toNat v 2 (N (19 + i) 0).toNat = N 2 (N (19 + i) 0).toNat := rfl
    rw [this]
    by_cases hx : (N (19 + i) 0).toNat = k.toNat
    · rw [if_pos hx, ← hx]; omega
    · rw [if_neg hx]; exact s2.2.2
  · obtain ⟨m1, -⟩ := hG1.2.2 j hj
    rw [hc0] at m1
    omega
  · rcases hH1 j hj with ⟨a1, a2, a3⟩ | ⟨a1, a2, a3, a4⟩
    · exact Or.inl ⟨a1, a2, a3⟩
    · rw [hc0] at a2
      omega
section OPS3
variable {L : Nat} {xs : Nat → Int} {N : mm_N}
theorem ok_13 (h : RL N N) (k : Int) : opOK L xs (fun N => RL N N) 71 106 [.inl k] N := by
  obtain ⟨l1, l2⟩ := line_b h
  have hg := h.2.2.2.2.2.2.2.1.2.2
  have hc := c_D_message (L := L) (xs := xs) N k l1
  have hm := c_M_message (L := L) (xs := xs) N k (hw_of h.2.2.2.2.1) (line_c h) (fun hk => by
    obtain ⟨m1, m2, m3, m4, m5⟩ := hg k.toNat (by omega)
    obtain ⟨b1, b2, b3, b4, b5, b6, b7⟩ := sb h m1.1 m1.2 m2
    exact ⟨⟨m1.1, b1⟩, ⟨m2.1, b3⟩, m3, m4, by rw [b5]; exact b4⟩)
  by_cases hk : 0 ≤ k ∧ k < N 14 1
  · have e2 : n_M_message N k = rd N (kq N (N 39 k.toNat)) (dq N (N 39 k.toNat)) (uq N (N 39 k.toNat)) (rq N (N 39 k.toNat)) (zq N (N 39 k.toNat)) := by
      unfold n_M_message
      rw [if_neg (fun z => isM.mp z (by rw [l2]; exact hk))]
    rw [e2] at hm
    refine op_mk (by decide) (by decide) hc hm ?_ (fun a ha => fr_rd ha) (RL_rd h)
    obtain ⟨m1, m2, m3, m4, m5⟩ := hg k.toNat (by omega)
    obtain ⟨b1, b2, b3, b4, b5, b6, b7⟩ := sb h m1.1 m1.2 m2
    unfold r_D_message r_M_message
    rw [if_neg (fun z => isB.mp z hk), if_neg (fun z => isM.mp z (by rw [l2]; exact hk)), b6, m5]
  · have e2 : n_M_message N k = N := by
      unfold n_M_message
      rw [if_pos (isM.mpr (by rw [l2]; exact hk))]
    rw [e2] at hm
    refine op_mk (by decide) (by decide) hc hm ?_ (fun a ha => rfl) h
    unfold r_D_message r_M_message
    rw [if_pos (isB.mpr hk), if_pos (isM.mpr (by rw [l2]; exact hk))]
theorem cA_cz (h : RL N N) : ∀ i : Nat, i ≤ 96 → cA N 0 i = cz (N 9) i ∧ cA N 1 i = cz (N 12) i
  | 0, _ => ⟨rfl, rfl⟩
  | i + 1, hi => by
    obtain ⟨i1, i2⟩ := cA_cz h i (by omega)
    have hH := h.2.2.2.2.2.2.2.2.1 i (by omega)
    unfold cA cz
    rcases hH with ⟨a1, a2, a3⟩ | ⟨a1, a2, a3, a4⟩
    · rw [if_pos a1, if_pos a2, if_pos a1, if_pos a3]
      exact ⟨i1, i2⟩
    · obtain ⟨b1, b2, b3, b4, b5, b6, b7⟩ := sb h (s := (i : Int) / 8) (t := ((i : Int) % 8) / 2) (by omega) a2 ⟨by omega, a3⟩
      have hne : ¬ N 43 i = 0 := by omega
      rw [if_neg hne, if_neg hne, b6]
      rcases a4 with ⟨c1, c2, c3⟩ | ⟨c1, c2, c3⟩
      · rw [if_pos c1, if_neg (show ¬ N 9 i = 0 by omega), if_neg (show ¬ nd N ((i : Int) / 8) (((i : Int) % 8) / 2) = 1 by omega), if_pos c3, i1]
        exact ⟨rfl, i2⟩
      · rw [if_neg (show ¬ nd N ((i : Int) / 8) (((i : Int) % 8) / 2) = 0 by omega), if_pos c2, if_pos c1, if_neg (show ¬ N 12 i = 0 by omega), i2]
        exact ⟨i1, rfl⟩
theorem ok_17 (h : RL N N) (d : Int) : opOK L xs (fun N => RL N N) 76 110 [.inl d] N := by
  have hI := h.2.2.2.2.2.2.2.2.2
  have hc := c_D_answered (L := L) (xs := xs) N d
  have hm := c_M_answered (L := L) (xs := xs) N d (hw_of h.2.2.2.2.1) (fun j hj hne => by
    rcases h.2.2.2.2.2.2.2.2.1 j hj with ⟨a1, a2, a3⟩ | ⟨a1, a2, a3, a4⟩
    · exact absurd a1 hne
    · obtain ⟨b1, b2, b3, b4, b5, b6, b7⟩ := sb h (s := (j : Int) / 8) (t := ((j : Int) % 8) / 2) (by omega) a2 ⟨by omega, a3⟩
      rw [b5]
      exact b4)
  have hr : r_D_answered N d = r_M_answered N d := by
    unfold r_D_answered r_M_answered
    by_cases hd : 0 ≤ d ∧ d < 2
    · rw [if_neg (fun z => isB.mp z hd), if_neg (show ¬ d < 0 by omega), if_neg (show ¬ 1 < d by omega)]
      obtain ⟨c1, c2⟩ := cA_cz h 96 (Nat.le_refl _)
      have hd2 : d = 0 ∨ d = 1 := by omega
      rcases hd2 with rfl | rfl
      · rw [c1]; exact hI.1
      · rw [c2]; exact hI.2
    · rw [if_pos (isB.mpr hd)]
      by_cases h0 : d < 0
      · rw [if_pos h0]
      · rw [if_neg h0, if_pos (by omega)]
  refine mm_Cl_up mm_pf mm_bd L xs mm_pr (show 2 ≤ 6 by decide) _ _ _ _ _ _ ?_ hc
  rintro r sh N' ⟨rfl, rfl, rfl⟩
  refine ⟨rfl, _, rfl, ?_⟩
  refine mm_Cl_up mm_pf mm_bd L xs mm_pr (show 3 ≤ 6 by decide) _ _ _ _ _ _ ?_ hm
  rintro r sh N' ⟨rfl, rfl, a, b, c, e, f, rfl⟩
  exact ⟨by rw [hr], rfl, RL_lo (fun k hk => fr_rd hk) (RL_rd h)⟩
theorem ok_1 (h : RL N N) (d t v : Int) : opOK L xs (fun N => RL N N) 11 81 [.inl d, .inl t, .inl v] N := by
  obtain ⟨hA, hB, hC, hD, hE, hV, hS, hG, hH, hI⟩ := h
  have h : RL N N := ⟨hA, hB, hC, hD, hE, hV, hS, hG, hH, hI⟩
  have hc := c_D_supply (L := L) (xs := xs) N d t v
  by_cases hk : (0 ≤ d ∧ d < 2) ∧ (0 ≤ t ∧ t < 8) ∧ ¬ v < 0 ∧ ¬ 1000 < v ∧ N 0 7 = 0
  · obtain ⟨k1, k2, k3, k4, k5⟩ := hk
    have e1 : n_D_supply N d t v = mm_f2 N (8 + 3 * d.toNat) t.toNat v := by
      unfold n_D_supply
      rw [if_neg (fun z => isB.mp z k1), if_neg (fun z => isB.mp z k2), if_neg k3, if_neg k4, if_pos k5]
    rw [e1] at hc
    have hfr : ∀ a, 31 ≤ a → mm_f2 N (8 + 3 * d.toNat) t.toNat v a = N a := fun a ha => mm_f2_row (by omega)
    have hm := c_M_supply (L := L) (xs := xs) (mm_f2 N (8 + 3 * d.toNat) t.toNat v) d t v
    have h31 : mm_f2 N (8 + 3 * d.toNat) t.toNat v 31 4 = 0 := by rw [hfr 31 (by omega), hB.1]; exact k5
    have e2 : n_M_supply (mm_f2 N (8 + 3 * d.toNat) t.toNat v) d t v = mm_f2 (mm_f2 N (8 + 3 * d.toNat) t.toNat v) 36 (8 * d + t).toNat v := by
      unfold n_M_supply
      rw [if_neg (show ¬ d < 0 by omega), if_neg (show ¬ 1 < d by omega), if_neg (show ¬ t < 0 by omega), if_neg (show ¬ 7 < t by omega), if_neg k3, if_neg k4, if_pos h31]
    rw [e2] at hm
    refine op_mk (by decide) (by decide) hc hm ?_ (fun a ha => mm_f2_row (by omega)) ?_
    · unfold r_D_supply r_M_supply
      rw [if_neg (fun z => isB.mp z k1), if_neg (fun z => isB.mp z k2), if_neg k3, if_neg k4, if_pos k5, if_neg (show ¬ d < 0 by omega), if_neg (show ¬ 1 < d by omega), if_neg (show ¬ t < 0 by omega), if_neg (show ¬ 7 < t by omega), if_neg k3, if_neg k4, if_pos h31]
    · have hd2 : d = 0 ∨ d = 1 := by omega
      rcases hd2 with rfl | rfl
      · refine ⟨hA, hB, fun j hj => ?_, hD, hE, hV, gS_mv hV hS rfl rfl rfl rfl (fun i hi => mm_f2_row (by show 19 + i ≠ 8; omega)), hG, hH, hI⟩
        show mm_f2 N 36 (8 * 0 + t).toNat v 36 j = mm_f2 N 8 t.toNat v 8 j ∧ mm_f2 N 36 (8 * 0 + t).toNat v 36 (8 + j) = N 11 j
        rw [f2_j, f2_j, f2_j, show (8 * 0 + t).toNat = t.toNat by omega, if_neg (show ¬ 8 + j = t.toNat by omega)]
        refine ⟨?_, (hC j hj).2⟩
        by_cases hjt : j = t.toNat
        · rw [if_pos hjt, if_pos hjt]
        · rw [if_neg hjt, if_neg hjt]; exact (hC j hj).1
      · refine ⟨hA, hB, fun j hj => ?_, hD, hE, hV, gS_mv hV hS rfl rfl rfl rfl (fun i hi => mm_f2_row (by show 19 + i ≠ 11; omega)), hG, hH, hI⟩
        show mm_f2 N 36 (8 * 1 + t).toNat v 36 j = N 8 j ∧ mm_f2 N 36 (8 * 1 + t).toNat v 36 (8 + j) = mm_f2 N 11 t.toNat v 11 j
        rw [f2_j, f2_j, f2_j, if_neg (show ¬ j = (8 * 1 + t).toNat by omega)]
        refine ⟨(hC j hj).1, ?_⟩
        by_cases hjt : j = t.toNat
        · rw [if_pos hjt, if_pos (by omega)]
        · rw [if_neg hjt, if_neg (by omega)]; exact (hC j hj).2
  · have e1 : n_D_supply N d t v = N ∧ r_D_supply N d t v = 0 := by
      unfold n_D_supply r_D_supply
      by_cases k1 : 0 ≤ d ∧ d < 2
      · rw [if_neg (fun z => isB.mp z k1), if_neg (fun z => isB.mp z k1)]
        by_cases k2 : 0 ≤ t ∧ t < 8
        · rw [if_neg (fun z => isB.mp z k2), if_neg (fun z => isB.mp z k2)]
          by_cases k3 : v < 0
          · rw [if_pos k3, if_pos k3]; exact ⟨rfl, rfl⟩
          · rw [if_neg k3, if_neg k3]
            by_cases k4 : 1000 < v
            · rw [if_pos k4, if_pos k4]; exact ⟨rfl, rfl⟩
            · rw [if_neg k4, if_neg k4]
              have k5 : ¬ N 0 7 = 0 := fun z => hk ⟨k1, k2, k3, k4, z⟩
              rw [if_neg k5, if_neg k5]; exact ⟨rfl, rfl⟩
        · rw [if_pos (isB.mpr k2), if_pos (isB.mpr k2)]; exact ⟨rfl, rfl⟩
      · rw [if_pos (isB.mpr k1), if_pos (isB.mpr k1)]; exact ⟨rfl, rfl⟩
    rw [e1.1] at hc
    have hm := c_M_supply (L := L) (xs := xs) N d t v
    have e2 : n_M_supply N d t v = N ∧ r_M_supply N d t v = 0 := by
      unfold n_M_supply r_M_supply
      rw [hB.1]
      by_cases a1 : d < 0
      · rw [if_pos a1, if_pos a1]; exact ⟨rfl, rfl⟩
      · rw [if_neg a1, if_neg a1]
        by_cases a2 : 1 < d
        · rw [if_pos a2, if_pos a2]; exact ⟨rfl, rfl⟩
        · rw [if_neg a2, if_neg a2]
          by_cases a3 : t < 0
          · rw [if_pos a3, if_pos a3]; exact ⟨rfl, rfl⟩
          · rw [if_neg a3, if_neg a3]
            by_cases a4 : 7 < t
            · rw [if_pos a4, if_pos a4]; exact ⟨rfl, rfl⟩
            · rw [if_neg a4, if_neg a4]
              by_cases a5 : v < 0
              · rw [if_pos a5, if_pos a5]; exact ⟨rfl, rfl⟩
              · rw [if_neg a5, if_neg a5]
                by_cases a6 : 1000 < v
                · rw [if_pos a6, if_pos a6]; exact ⟨rfl, rfl⟩
                · rw [if_neg a6, if_neg a6]
                  have k5 : ¬ N 0 7 = 0 := fun z => hk ⟨by omega, by omega, a5, a6, z⟩
                  rw [if_neg k5, if_neg k5]; exact ⟨rfl, rfl⟩
    rw [e2.1] at hm
    exact op_mk (by decide) (by decide) hc hm (by rw [e1.2, e2.2]) (fun a ha => rfl) h
theorem ok_0 (h : RL N N) (k o t v : Int) : opOK L xs (fun N => RL N N) 6 80 [.inl k, .inl o, .inl t, .inl v] N := by
  obtain ⟨hA, hB, hC, hD, hE, hV, hS, hG, hH, hI⟩ := h
  have h : RL N N := ⟨hA, hB, hC, hD, hE, hV, hS, hG, hH, hI⟩
  have hc := c_D_addStep (L := L) (xs := xs) N k o t v hA.1
  have hmK : ∀ M : mm_N, RL N M → ∀ k, k < 4 → 0 ≤ M 32 k ∧ M 32 k ≤ 4 := fun M h1 k hk => by rw [h1.1.2.1 k hk]; exact h1.1.1.1 k hk
  by_cases hk : (0 ≤ k ∧ k < 4) ∧ (0 ≤ o ∧ o < 3) ∧ (0 ≤ t ∧ t < 8) ∧ ¬ v < 1 ∧ ¬ 100 < v
  · obtain ⟨k1, k2, k3, k4, k5⟩ := hk
    have hkc := hA.1.1 k.toNat (by omega)
    have h32 := hA.2.1 k.toNat (by omega)
    have dn : n_D_addStep N k o t v = if N 0 7 = 0 then (if N 2 k.toNat = 4 then N else mm_f2 (mm_f2 (mm_f2 (mm_f2 N 3 (4 * k + N 2 k.toNat).toNat o) 4 (4 * k + N 2 k.toNat).toNat t) 5 (4 * k + N 2 k.toNat).toNat v) 2 k.toNat (N 2 k.toNat + 1)) else N := by
      unfold n_D_addStep
      rw [if_neg (fun z => isB.mp z k1), if_neg (fun z => isB.mp z k2), if_neg (fun z => isB.mp z k3), if_neg k4, if_neg k5]
    have dr : r_D_addStep N k o t v = if N 0 7 = 0 then (if N 2 k.toNat = 4 then -3 else N 2 k.toNat) else -4 := by
      unfold r_D_addStep
      rw [if_neg (fun z => isB.mp z k1), if_neg (fun z => isB.mp z k2), if_neg (fun z => isB.mp z k3), if_neg k4, if_neg k5]
    have mn : ∀ M : mm_N, n_M_addStep M k o t v = if M 31 4 = 0 then (if M 32 k.toNat = 4 then M else mm_f2 (mm_f2 (mm_f2 (mm_f2 M 33 (4 * k + M 32 k.toNat).toNat o) 34 (4 * k + M 32 k.toNat).toNat t) 35 (4 * k + M 32 k.toNat).toNat v) 32 k.toNat (M 32 k.toNat + 1)) else M := by
      intro M
      unfold n_M_addStep
      rw [if_neg (show ¬ k < 0 by omega), if_neg (show ¬ 3 < k by omega), if_neg (show ¬ o < 0 by omega), if_neg (show ¬ 2 < o by omega), if_neg (show ¬ t < 0 by omega), if_neg (show ¬ 7 < t by omega), if_neg k4, if_neg k5]
    have mr : ∀ M : mm_N, r_M_addStep M k o t v = if M 31 4 = 0 then (if M 32 k.toNat = 4 then -3 else (M 32 k.toNat + 1) - 1) else -4 := by
      intro M
      unfold r_M_addStep
      rw [if_neg (show ¬ k < 0 by omega), if_neg (show ¬ 3 < k by omega), if_neg (show ¬ o < 0 by omega), if_neg (show ¬ 2 < o by omega), if_neg (show ¬ t < 0 by omega), if_neg (show ¬ 7 < t by omega), if_neg k4, if_neg k5]
    by_cases hb : N 0 7 = 0 ∧ ¬ N 2 k.toNat = 4
    · rw [dn, if_pos hb.1, if_neg hb.2] at hc
      have hfr : ∀ a, 31 ≤ a → mm_f2 (mm_f2 (mm_f2 (mm_f2 N 3 (4 * k + N 2 k.toNat).toNat o) 4 (4 * k + N 2 k.toNat).toNat t) 5 (4 * k + N 2 k.toNat).toNat v) 2 k.toNat (N 2 k.toNat + 1) a = N a := fun a ha => by rw [mm_f2_row (by omega), mm_f2_row (by omega), mm_f2_row (by omega), mm_f2_row (by omega)]
      have h1 : RL N _ := RL_hi hfr h
      generalize hM : mm_f2 (mm_f2 (mm_f2 (mm_f2 N 3 (4 * k + N 2 k.toNat).toNat o) 4 (4 * k + N 2 k.toNat).toNat t) 5 (4 * k + N 2 k.toNat).toNat v) 2 k.toNat (N 2 k.toNat + 1) = M at hc hfr h1
      have hm := c_M_addStep (L := L) (xs := xs) M k o t v (hmK M h1)
      have m4 : M 31 4 = 0 := by rw [hfr 31 (by omega), hB.1]; exact hb.1
      have m32 : M 32 k.toNat = N 2 k.toNat := by rw [hfr 32 (by omega)]; exact h32
      rw [mn M, if_pos m4, if_neg (by rw [m32]; exact hb.2), m32] at hm
      refine op_mk (by decide) (by decide) hc hm ?_ (fun a ha => by rw [mm_f2_row (by omega), mm_f2_row (by omega), mm_f2_row (by omega), mm_f2_row (by omega)]) ?_
      · rw [dr, mr M, if_pos hb.1, if_neg hb.2, if_pos m4, m32, if_neg hb.2]
        omega
      · have := RL_add (M := M) (v := v) h1 k1 k2 k3 hb.1 hb.2
        rw [hM] at this
        exact this
    · have e1 : n_D_addStep N k o t v = N := by
        rw [dn]
        by_cases hx : N 0 7 = 0
        · rw [if_pos hx, if_pos (by omega)]
        · rw [if_neg hx]
      rw [e1] at hc
      have hm := c_M_addStep (L := L) (xs := xs) N k o t v (hmK N h)
      have e2 : n_M_addStep N k o t v = N := by
        rw [mn N, hB.1, h32]
        by_cases hx : N 0 7 = 0
        · rw [if_pos hx, if_pos (by omega)]
        · rw [if_neg hx]
      rw [e2] at hm
      refine op_mk (by decide) (by decide) hc hm ?_ (fun a ha => rfl) h
      rw [dr, mr N, hB.1, h32]
      by_cases hx : N 0 7 = 0
      · rw [if_pos hx, if_pos hx, if_pos (by omega), if_pos (by omega)]
      · rw [if_neg hx, if_neg hx]
  · have e1 : n_D_addStep N k o t v = N ∧ r_D_addStep N k o t v = -1 := by
      unfold n_D_addStep r_D_addStep
      by_cases a1 : 0 ≤ k ∧ k < 4
      · rw [if_neg (fun z => isB.mp z a1), if_neg (fun z => isB.mp z a1)]
        by_cases a2 : 0 ≤ o ∧ o < 3
        · rw [if_neg (fun z => isB.mp z a2), if_neg (fun z => isB.mp z a2)]
          by_cases a3 : 0 ≤ t ∧ t < 8
          · rw [if_neg (fun z => isB.mp z a3), if_neg (fun z => isB.mp z a3)]
            by_cases a4 : v < 1
            · rw [if_pos a4, if_pos a4]; exact ⟨rfl, rfl⟩
            · rw [if_neg a4, if_neg a4, if_pos (by omega), if_pos (by omega)]; exact ⟨rfl, rfl⟩
          · rw [if_pos (isB.mpr a3), if_pos (isB.mpr a3)]; exact ⟨rfl, rfl⟩
        · rw [if_pos (isB.mpr a2), if_pos (isB.mpr a2)]; exact ⟨rfl, rfl⟩
      · rw [if_pos (isB.mpr a1), if_pos (isB.mpr a1)]; exact ⟨rfl, rfl⟩
    rw [e1.1] at hc
    have hm := c_M_addStep (L := L) (xs := xs) N k o t v (hmK N h)
    have e2 : n_M_addStep N k o t v = N ∧ r_M_addStep N k o t v = -1 := by
      unfold n_M_addStep r_M_addStep
      by_cases a1 : k < 0
      · rw [if_pos a1, if_pos a1]; exact ⟨rfl, rfl⟩
      · rw [if_neg a1, if_neg a1]
        by_cases a2 : 3 < k
        · rw [if_pos a2, if_pos a2]; exact ⟨rfl, rfl⟩
        · rw [if_neg a2, if_neg a2]
          by_cases a3 : o < 0
          · rw [if_pos a3, if_pos a3]; exact ⟨rfl, rfl⟩
          · rw [if_neg a3, if_neg a3]
            by_cases a4 : 2 < o
            · rw [if_pos a4, if_pos a4]; exact ⟨rfl, rfl⟩
            · rw [if_neg a4, if_neg a4]
              by_cases a5 : t < 0
              · rw [if_pos a5, if_pos a5]; exact ⟨rfl, rfl⟩
              · rw [if_neg a5, if_neg a5]
                by_cases a6 : 7 < t
                · rw [if_pos a6, if_pos a6]; exact ⟨rfl, rfl⟩
                · rw [if_neg a6, if_neg a6]
                  by_cases a7 : v < 1
                  · rw [if_pos a7, if_pos a7]; exact ⟨rfl, rfl⟩
                  · rw [if_neg a7, if_neg a7, if_pos (by omega), if_pos (by omega)]; exact ⟨rfl, rfl⟩
    rw [e2.1] at hm
    exact op_mk (by decide) (by decide) hc hm (by rw [e1.2, e2.2]) (fun a ha => rfl) h
end OPS3
