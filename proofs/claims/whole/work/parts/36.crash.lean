/-! crash -/
abbrev cb (N : mm_N) : mm_N := mm_f2 (mm_f2 (mm_f2 N 13 ((2 : Int).toNat) 0) 16 1 (N 16 2)) 0 6 0
theorem rc_all {C M : mm_N} (h : RL C M) : ∀ i : Nat, i ≤ sC C → cC (itn drr i (cb C)) (C 17) i ∧ cS (itn drr i (cb C)) ∧ (∀ a, a ≠ 0 → (∀ n, n < 12 → a ≠ 19 + n) → itn drr i (cb C) a = cb C a) ∧ ∀ j, j ≠ 6 → itn drr i (cb C) 0 j = C 0 j
  | 0, _ => by
    refine ⟨⟨rfl, fun i hi => absurd hi (by simp [lg_cn])⟩, ?_, fun a _ _ => rfl, fun j hj => ?_⟩
    · refine cS_mv h.2.2.2.2.2.2.1.2 rfl (fun i hi => ?_)
      show cb C (19 + i) = C (19 + i)
      unfold cb
      rw [mm_f2_row (by omega), mm_f2_row (by omega), mm_f2_row (by omega)]
    · show cb C 0 j = C 0 j
      unfold cb
      rw [f2_j, if_neg hj]
      rfl
  | i + 1, hi => by
    obtain ⟨h1, h2, h3, h4⟩ := rc_all h i (by omega)
    have hV := h.2.2.2.2.2.1
    have hle := sC_le h.2.2.2.2.1
    have hva : lg_va (C 2) (C 17) (i + 1) := lg_va_le (by omega) hV.1
    have r2 : itn drr i (cb C) 2 = C 2 := h3 2 (by omega) (by omega)
    have r3 : itn drr i (cb C) 3 = C 3 := h3 3 (by omega) (by omega)
    have r4 : itn drr i (cb C) 4 = C 4 := h3 4 (by omega) (by omega)
    have r17 : itn drr i (cb C) 17 = C 17 := h3 17 (by omega) (by omega)
    have hK : cK (itn drr i (cb C)) := by unfold cK; rw [r2, r3, r4]; exact h.1.1
    have hm96 : mC C ≤ 96 := by
      have := h.2.2.2.2.1.2.2.2
      unfold mC
      omega
    have hr := rec_s (p := i) hva (Nat.lt_succ_self i)
    have h12 := lg_cn_12 hva
    have hg : (itn drr i (cb C) 17 ((3 * (i : Int)) + 1).toNat).toNat < 12 := by
      rw [r17, show ((3 * (i : Int)) + 1).toNat = 3 * i + 1 by omega]
      omega
    obtain ⟨u1, u2⟩ := rr_up (N := itn drr i (cb C)) (f := C 17) (p := i) h1 h2 hK (by omega) (by rw [r17]) (by rw [r17]) (by rw [r17]) (by rw [r2]; exact hva)
    refine ⟨u1, u2, fun a h0 hn => ?_, fun j hj => ?_⟩
    · show n_D_readRecord (itn drr i (cb C)) i a = cb C a
      rw [rr_row h0 hn hg, h3 a h0 hn]
    · show n_D_readRecord (itn drr i (cb C)) i 0 j = C 0 j
      rw [rr_0 hj, h4 j hj]
theorem RL_cr {C M : mm_N} (h : RL C M) : RL (itn drr (sC C) (cb C)) (mm_f2 (mm_f2 M 37 ((2 : Int).toNat) 0) 31 8 (M 31 9)) := by
  obtain ⟨h1, h2, h3, h4⟩ := rc_all h (sC C) (Nat.le_refl _)
  obtain ⟨hA, hB, hC, hD, hE, hV, hS, hG, hH, hI⟩ := h
  have hle := sC_le hE
  obtain ⟨e1, e2, e3, e4, e5, e6⟩ := hE
  have r07 : itn drr (sC C) (cb C) 0 7 = C 0 7 := h4 7 (by omega)
  have r2 : itn drr (sC C) (cb C) 2 = C 2 := h3 2 (by omega) (by omega)
  have r3 : itn drr (sC C) (cb C) 3 = C 3 := h3 3 (by omega) (by omega)
  have r4 : itn drr (sC C) (cb C) 4 = C 4 := h3 4 (by omega) (by omega)
  have r5 : itn drr (sC C) (cb C) 5 = C 5 := h3 5 (by omega) (by omega)
  have r7 : itn drr (sC C) (cb C) 7 = C 7 := h3 7 (by omega) (by omega)
  have r8 : itn drr (sC C) (cb C) 8 = C 8 := h3 8 (by omega) (by omega)
  have r9 : itn drr (sC C) (cb C) 9 = C 9 := h3 9 (by omega) (by omega)
  have r10 : itn drr (sC C) (cb C) 10 = C 10 := h3 10 (by omega) (by omega)
  have r11 : itn drr (sC C) (cb C) 11 = C 11 := h3 11 (by omega) (by omega)
  have r12 : itn drr (sC C) (cb C) 12 = C 12 := h3 12 (by omega) (by omega)
  have r13 : itn drr (sC C) (cb C) 13 = mm_f2 C 13 ((2 : Int).toNat) 0 13 := h3 13 (by omega) (by omega)
  have r14 : itn drr (sC C) (cb C) 14 = C 14 := h3 14 (by omega) (by omega)
  have r15 : itn drr (sC C) (cb C) 15 = C 15 := h3 15 (by omega) (by omega)
  have r161 : itn drr (sC C) (cb C) 16 1 = C 16 2 := by rw [h3 16 (by omega) (by omega)]; rfl
  have r162 : itn drr (sC C) (cb C) 16 2 = C 16 2 := by rw [h3 16 (by omega) (by omega)]; rfl
  have r17 : itn drr (sC C) (cb C) 17 = C 17 := h3 17 (by omega) (by omega)
  generalize itn drr (sC C) (cb C) = C2 at *
  have hm2 : mC C2 = sC C := by unfold mC sC; rw [r161]
  have hs2 : sC C2 = sC C := by unfold sC; rw [r162]
  have hk : ∀ s, 0 ≤ s → s < lg_cn (C 17) (sC C) → lg_k (C2 17) s (mC C2) = lg_k (C 17) s (mC C) := by
    intro s h0 hs
    rw [r17, hm2]
    exact (lg_k_keep h0 hs hle hV.1).symm
  have hnd : ∀ s t, 0 ≤ s → s < lg_cn (C 17) (sC C) → nd C2 s t = nd C s t := by
    intro s t h0 hs
    unfold nd
    rw [hk s h0 hs, r3]
  have hva : lg_va (C 2) (C 17) (sC C) := lg_va_le hle hV.1
  refine ⟨?_, ?_, ?_, fun n hn => ?_, ⟨?_, ?_, ?_, ?_⟩, ⟨?_, fun z => ?_, fun z => ?_, fun _ => ?_⟩, ⟨?_, h2⟩, ⟨?_, ?_, fun j hj => ?_⟩, fun j hj => ?_, ?_⟩
  · unfold gA cK; rw [r2, r3, r4, r5]; exact hA
  · unfold gB; rw [r07]; exact hB
  · unfold gC; rw [r8, r11]; exact hC
  · rw [r13]
    show mm_f2 M 37 ((2 : Int).toNat) 0 37 n = _ ∧ _
    rw [f2_j, f2_j]
    by_cases hx : n = (2 : Int).toNat
    · rw [if_pos hx, if_pos hx]; exact ⟨rfl, Or.inl rfl⟩
    · rw [if_neg hx, if_neg hx]; exact hD n hn
  · rw [r17]; exact e1
  · show M 31 9 = C2 16 1
    rw [r161, e3]
  · show M 31 9 = C2 16 2
    rw [r162, e3]
  · rw [r161, r162]; omega
  · rw [r2, r17, hm2]; exact hva
  · rw [r13] at z
    exact absurd rfl z
  · rw [r07] at z
    rw [r161]
    have := hV.2.2.1 z
    omega
  · rw [r161, r162]
  · rw [r17, hm2]; exact h1
  · show M 31 10 = C2 14 1
    rw [r14]; exact hG.1
  · rw [r14]; exact hG.2.1
  · rw [r14] at hj
    obtain ⟨m1, m2, m3, m4, m5⟩ := hG.2.2 j hj
    show gm C2 (C2 15 j) (M 39 j) (M 40 j) (M 41 j) (M 42 j)
    refine ⟨by rw [r17, hs2]; exact m1, by rw [hk _ m1.1 m1.2, r2]; exact m2, m3, m4, ?_⟩
    rw [hnd _ _ m1.1 m1.2, r15]
    exact m5
  · rw [r9, r12]
    rcases hH j hj with a | ⟨a1, a2, a3, a4⟩
    · exact Or.inl a
    · refine Or.inr ⟨a1, by rw [r17, hs2]; exact a2, by rw [hk _ (by omega) a2, r2]; exact a3, ?_⟩
      rw [hnd _ _ (by omega) a2]
      exact a4
  · unfold gI; rw [r7, r9, r10, r12]; exact hI
section OPS6
variable {L : Nat} {xs : Nat → Int} {N : mm_N}
theorem ok_8 (h : RL N N) (d : Int) : opOK L xs (fun N => RL N N) 61 101 [.inl d] N := by
  have hD := h.2.2.2.1
  obtain ⟨e1, e2, e3, e4, e5, e6⟩ := h.2.2.2.2.1
  have hV := h.2.2.2.2.2.1
  by_cases hd : (0 ≤ d ∧ d < 3) ∧ ¬ N 13 d.toNat = 0
  · by_cases h2 : d = 2
    · subst h2
      have hA := rc_all h
      have hc := c_D_crash (L := L) (xs := xs) N 2 ⟨e4, by omega⟩ (fun _ _ i hi => by
        obtain ⟨h1, h3, h5, h6⟩ := hA i hi
        have r17 : itn drr i (cb N) 17 = N 17 := h5 17 (by omega) (by omega)
        have r2 : itn drr i (cb N) 2 = N 2 := h5 2 (by omega) (by omega)
        have r3 : itn drr i (cb N) 3 = N 3 := h5 3 (by omega) (by omega)
        have r4 : itn drr i (cb N) 4 = N 4 := h5 4 (by omega) (by omega)
        have hle := sC_le h.2.2.2.2.1
        have hi' : i ≤ sC N := hi
        have h12 := lg_cn_12 (lg_va_le (Nat.le_trans hi' hle) hV.1)
        have h0 := lg_cn_0 (N 17) i
        refine ⟨by show itn drr i (cb N) 16 1 = N 16 2; rw [h5 16 (by omega) (by omega)]; rfl, h3, by show cK (itn drr i (cb N)); unfold cK; rw [r2, r3, r4]; exact h.1.1, by show 0 ≤ itn drr i (cb N) 0 6 ∧ itn drr i (cb N) 0 6 < 1000; rw [h1.1]; omega, fun hlt => ?_⟩
        have hlt' : i < sC N := hlt
        have hr := rec_s (p := i) hV.1 (by omega)
        have h12' := lg_cn_12 hV.1
        show 0 ≤ itn drr i (cb N) 17 ((3 * (i : Int)) + 1).toNat ∧ itn drr i (cb N) 17 ((3 * (i : Int)) + 1).toNat < 12
        rw [r17, show ((3 * (i : Int)) + 1).toNat = 3 * i + 1 by omega]
        omega)
      have e1 : n_D_crash N 2 = itn drr (sC N) (cb N) := by
        unfold n_D_crash
        rw [if_neg (fun z => isB.mp z hd.1), if_neg hd.2, if_pos rfl]
        rfl
      rw [e1] at hc
      have hhi : ∀ a, 31 ≤ a → itn drr (sC N) (cb N) a = N a := fun a ha => by
        rw [(hA (sC N) (Nat.le_refl _)).2.2.1 a (by omega) (by omega)]
        unfold cb
        rw [mm_f2_row (by omega), mm_f2_row (by omega), mm_f2_row (by omega)]
      have h1 : RL N _ := RL_hi hhi h
      generalize hM : itn drr (sC N) (cb N) = M at hc hhi h1
      have h37 : ¬ M 37 (2 : Int).toNat = 0 := by
        show ¬ M 37 2 = 0
        rw [(h1.2.2.2.1 2 (by omega)).1]
        exact hd.2
      have hm := c_M_crash (L := L) (xs := xs) M 2
      have e2 : n_M_crash M 2 = mm_f2 (mm_f2 M 37 ((2 : Int).toNat) 0) 31 8 (M 31 9) := by
        unfold n_M_crash
        rw [if_neg (by decide), if_neg (by decide), if_neg h37, if_pos rfl]
      rw [e2] at hm
      refine op_mk (by decide) (by decide) hc hm ?_ (fun a ha => by rw [mm_f2_row (by omega), mm_f2_row (by omega)]) ?_
      · unfold r_D_crash r_M_crash
        rw [if_neg (fun z => isB.mp z hd.1), if_neg hd.2, if_neg (by decide), if_neg (by decide), if_neg h37]
      · have := RL_cr h1
        rw [hM] at this
        exact this
    · have hc := c_D_crash (L := L) (xs := xs) N d ⟨e4, by omega⟩ (fun z => absurd z h2)
      have e1 : n_D_crash N d = mm_f2 N 13 d.toNat 0 := by
        unfold n_D_crash
        rw [if_neg (fun z => isB.mp z hd.1), if_neg hd.2, if_neg h2]
      rw [e1] at hc
      have h1 : RL N (mm_f2 N 13 d.toNat 0) := RL_hi (fun a ha => mm_f2_row (by omega)) h
      generalize hM : mm_f2 N 13 d.toNat 0 = M at hc h1
      have h37 : ¬ M 37 d.toNat = 0 := by rw [(h1.2.2.2.1 d.toNat (by omega)).1]; exact hd.2
      have hm := c_M_crash (L := L) (xs := xs) M d
      have e2 : n_M_crash M d = mm_f2 (mm_f2 M 37 d.toNat 0) 31 8 (M 31 8) := by
        unfold n_M_crash
        rw [if_neg (show ¬ d < 0 by omega), if_neg (show ¬ 2 < d by omega), if_neg h37, if_neg h2]
      rw [e2] at hm
      refine op_mk (by decide) (by decide) hc hm ?_ (fun a ha => by rw [mm_f2_row (by omega), mm_f2_row (by omega)]) ?_
      · unfold r_D_crash r_M_crash
        rw [if_neg (fun z => isB.mp z hd.1), if_neg hd.2, if_neg (show ¬ d < 0 by omega), if_neg (show ¬ 2 < d by omega), if_neg h37]
      · have := RL_up (d := d) (v := 0) h1 (by omega) (Or.inl rfl)
        rw [hM] at this
        refine RL_m4 this ?_ (fun a ha => mm_f2_row (by omega))
        intro j hj
        rcases hj with rfl | rfl | rfl | rfl <;> rfl
  · have en : n_D_crash N d = N ∧ n_M_crash N d = N ∧ r_D_crash N d = r_M_crash N d := by
      unfold n_D_crash n_M_crash r_D_crash r_M_crash
      by_cases a1 : 0 ≤ d ∧ d < 3
      · rw [(hD d.toNat (by omega)).1]
        have a2 : N 13 d.toNat = 0 := by
          by_cases z : N 13 d.toNat = 0
          · exact z
          · exact absurd ⟨a1, z⟩ hd
        rw [if_neg (fun z => isB.mp z a1), if_neg (fun z => isB.mp z a1), if_neg (show ¬ d < 0 by omega), if_neg (show ¬ d < 0 by omega), if_neg (show ¬ 2 < d by omega), if_neg (show ¬ 2 < d by omega)]
        simp [a2]
      · rw [if_pos (isB.mpr a1), if_pos (isB.mpr a1)]
        by_cases a2 : d < 0
        · simp [a2]
        · simp [a2, show 2 < d by omega]
    have hc := c_D_crash (L := L) (xs := xs) N d ⟨e4, by omega⟩ (fun z1 z2 => absurd ⟨by omega, z2⟩ hd)
    have hm := c_M_crash (L := L) (xs := xs) N d
    rw [en.1] at hc
    rw [en.2.1] at hm
    exact op_mk (by decide) (by decide) hc hm en.2.2 (fun a ha => rfl) h
end OPS6
