/-! begin; flush; restart; crash -/
section OPS4
variable {L : Nat} {xs : Nat → Int} {N : mm_N}
theorem room_cn {C M : mm_N} (h : RL C M) (h12 : ¬ C 0 6 = 12) : C 16 1 + 3 ≤ 288 := by
  obtain ⟨hA, hB, hC, hD, hE, hV, hS, hG, hH, hI⟩ := h
  have hcn := hS.1.1
  have h1 := lg_cn_12 hV.1
  have h2 := lg_sum hV.1
  have g := lg_n_8 (fun k hk => (hA.1.1 k hk).2) hV.1
  have g0 := g 0 (by omega)
  have g1 := g 1 (by omega)
  have g2 := g 2 (by omega)
  have g3 := g 3 (by omega)
  have g4 := g 4 (by omega)
  have g5 := g 5 (by omega)
  have g6 := g 6 (by omega)
  have g7 := g 7 (by omega)
  have g8 := g 8 (by omega)
  have g9 := g 9 (by omega)
  have g10 := g 10 (by omega)
  have g11 := (lg_none (s := 11) hV.1 (Or.inr (by omega))).2.2.2.2.2
  have hm : (mC C : Int) = C 16 1 / 3 := by
    have := hE.2.2.2
    unfold mC
    omega
  omega
theorem st_ok {C M : mm_N} (h : RL C M) {k : Int} (hk : 0 ≤ k ∧ k < 4) (hc : ¬ C 2 k.toNat = 0) (hup : ¬ C 13 2 = 0) (h12 : ¬ C 0 6 = 12) : lg_ok (C 2) (wc C 1 (C 0 6) k 17) (mC C) := by
  obtain ⟨hA, hB, hC, hD, hE, hV, hS, hG, hH, hI⟩ := h
  have hw3 : C 16 1 = 3 * (mC C : Int) := by
    have := hV.2.1 hup
    have := hE.2.2.2
    unfold mC; omega
  have like := wc_like (C := C) (t := 1) (g := C 0 6) (v := k) (m := mC C) (by omega)
  obtain ⟨l1, l2⟩ := lg_like like
  have f0 : wc C 1 (C 0 6) k 17 (3 * mC C) = 1 := by rw [wc_17, if_neg (by omega), if_neg (by omega), if_pos (by omega)]
  have f1 : wc C 1 (C 0 6) k 17 (3 * mC C + 1) = C 0 6 := by rw [wc_17, if_neg (by omega), if_pos (by omega)]
  have f2 : wc C 1 (C 0 6) k 17 (3 * mC C + 2) = k := by rw [wc_17, if_pos (by omega)]
  have hcn := hS.1.1
  have h12' := lg_cn_12 hV.1
  have hkk := hA.1.1 k.toNat (by omega)
  refine Or.inl ⟨f0, by rw [f1, ← l1]; exact hcn, by rw [← l1]; omega, ?_⟩
  rw [f2]
  exact ⟨hk.1, hk.2, by omega⟩
theorem ok_2 (h : RL N N) (k : Int) : opOK L xs (fun N => RL N N) 13 96 [.inl k] N := by
  have hK := h.1.1
  have hS := h.2.2.2.2.2.2.1.2
  have hcn := h.2.2.2.2.2.2.1.1.1
  have hq6 := fun (M : mm_N) (h1 : RL N M) => (qL h1.2.2.2.2.1 k).2.2.2.2.2
  have hD := (h.2.2.2.1 2 (by omega)).1
  have hV := h.2.2.2.2.2.1
  by_cases hk : (0 ≤ k ∧ k < 4) ∧ ¬ N 2 k.toNat = 0 ∧ ¬ N 13 2 = 0 ∧ ¬ N 0 6 = 12
  · obtain ⟨k1, k2, k3, k4⟩ := hk
    have hF := RL_flag h
    have hok := st_ok hF k1 k2 k3 k4
    obtain ⟨hroom, -⟩ := RL_wr hF k3 (by show ¬ (1 : Int) = 0; decide) hok
    have hroom : N 16 1 + 3 ≤ 288 := hroom
    have hc := c_D_begin (L := L) (xs := xs) N k hK hS (sg_c h) (log_b h) hV.2.1 (fun _ => by omega)
    have e1 : n_D_begin N k = n_D_readRecord (wc (mm_f2 N 0 7 1) 1 (N 0 6) k) (((N 16 1 + 3) / 3) - 1) := by
      unfold n_D_begin
      rw [if_neg (fun z => isB.mp z k1), if_neg k2, if_neg k3, if_neg k4]
      rfl
    have hfr : ∀ a, 31 ≤ a → n_D_readRecord (wc (mm_f2 N 0 7 1) 1 (N 0 6) k) (((N 16 1 + 3) / 3) - 1) a = N a := by
      intro a ha
      have hwp := log_b h
      have := sg_c h
      rw [fr_rr ha]
      · unfold wc
        rw [mm_f2_row (by omega), mm_f2_row (by omega), mm_f2_row (by omega), mm_f2_row (by omega), mm_f2_row (by omega)]
      · have h3 := hV.2.1 k3
        have e16 : (mm_f2 N 0 7 1) 16 1 = N 16 1 := rfl
        rw [wc_17, e16, if_neg (by omega), if_pos (by omega)]
        omega
    have h1 : RL N _ := RL_hi hfr h
    rw [e1] at hc
    generalize hM : n_D_readRecord (wc (mm_f2 N 0 7 1) 1 (N 0 6) k) (((N 16 1 + 3) / 3) - 1) = M at hc hfr h1
    have hsg : r_M_sagas M = N 0 6 := by rw [hq6 M h1]; exact hcn.symm
    have m8 : M 31 8 = N 16 1 := h1.2.2.2.2.1.2.1
    have hm := c_M_begin (L := L) (xs := xs) M k (hw_of h1.2.2.2.2.1) (fun _ => by rw [m8]; omega)
    have m32 : ¬ M 32 k.toNat = 0 := by rw [h1.1.2.1 k.toNat (by omega)]; exact k2
    have m37 : ¬ M 37 2 = 0 := by rw [(h1.2.2.2.1 2 (by omega)).1]; exact k3
    have e2 : n_M_begin M k = mm_f2 (wm M 1 (N 0 6) k) 31 4 1 := by
      unfold n_M_begin
      rw [if_neg (show ¬ k < 0 by omega), if_neg (show ¬ 3 < k by omega), if_neg m32, if_neg m37, hsg, if_neg k4]
    rw [e2] at hm
    refine op_mk (by decide) (by decide) hc hm ?_ ?_ ?_
    · unfold r_D_begin r_M_begin
      rw [if_neg (fun z => isB.mp z k1), if_neg k2, if_neg k3, if_neg k4, if_neg (show ¬ k < 0 by omega), if_neg (show ¬ 3 < k by omega), if_neg m32, if_neg m37, hsg, if_neg k4]
    · intro a ha
      unfold wm
      rw [mm_f2_row (by omega), mm_f2_row (by omega), mm_f2_row (by omega), mm_f2_row (by omega), mm_f2_row (by omega)]
    · have hF1 := RL_flag h1
      obtain ⟨-, hR⟩ := RL_wr hF1 k3 (by show ¬ (1 : Int) = 0; decide) hok
      have hR : RL (n_D_readRecord (wc (mm_f2 N 0 7 1) 1 (N 0 6) k) (((N 16 1 + 3) / 3) - 1)) (wm (mm_f2 M 31 4 1) 1 (N 0 6) k) := hR
      rw [hM] at hR
      refine RL_m4 hR ?_ ?_
      · intro j hj
        rcases hj with rfl | rfl | rfl | rfl <;> rfl
      · intro a ha
        by_cases h38 : a = 38
        · subst h38; rfl
        · unfold wm
          rw [mm_f2_row (by omega), mm_f2_row (by omega), mm_f2_row h38, mm_f2_row h38, mm_f2_row h38, mm_f2_row (by omega), mm_f2_row h38, mm_f2_row h38, mm_f2_row h38, mm_f2_row (by omega)]
  · skip
    have en : n_D_begin N k = N ∧ n_M_begin N k = N ∧ r_D_begin N k = r_M_begin N k := by
      have hsg : r_M_sagas N = N 0 6 := by rw [hq6 N h]; exact hcn.symm
      unfold n_D_begin n_M_begin r_D_begin r_M_begin
      rw [hD, hsg]
      by_cases a1 : 0 ≤ k ∧ k < 4
      · rw [if_neg (fun z => isB.mp z a1), if_neg (fun z => isB.mp z a1), if_neg (show ¬ k < 0 by omega), if_neg (show ¬ k < 0 by omega), if_neg (show ¬ 3 < k by omega), if_neg (show ¬ 3 < k by omega), h.1.2.1 k.toNat (by omega)]
        by_cases a2 : N 2 k.toNat = 0
        · simp [a2]
        · skip
          by_cases a3 : N 13 2 = 0
          · simp [a2, a3]
          · skip
            have a4 : N 0 6 = 12 := by
              by_cases z : N 0 6 = 12
              · exact z
              · exact absurd ⟨a1, a2, a3, z⟩ hk
            simp [a2, a3, a4]
      · rw [if_pos (isB.mpr a1), if_pos (isB.mpr a1)]
        by_cases a2 : k < 0
        · rw [if_pos a2, if_pos a2]; exact ⟨rfl, rfl, rfl⟩
        · rw [if_neg a2, if_neg a2, if_pos (show 3 < k by omega), if_pos (show 3 < k by omega)]; exact ⟨rfl, rfl, rfl⟩
    have hsg : r_M_sagas N = N 0 6 := by rw [hq6 N h]; exact hcn.symm
    have hc := c_D_begin (L := L) (xs := xs) N k hK hS (sg_c h) (log_b h) hV.2.1 (fun z => by have := room_cn h z; omega)
    have hm := c_M_begin (L := L) (xs := xs) N k (hw_of h.2.2.2.2.1) (fun z => by rw [h.2.2.2.2.1.2.1]; exact room_cn h (by rw [hsg] at z; exact z))
    rw [en.1] at hc
    rw [en.2.1] at hm
    exact op_mk (by decide) (by decide) hc hm en.2.2 (fun a ha => rfl) h
end OPS4
