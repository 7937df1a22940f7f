/-! a record written -/
abbrev wc (C : mm_N) (t g v : Int) : mm_N := mm_f2 (mm_f2 (mm_f2 (mm_f2 C 17 ((C 16 1).toNat) t) 17 ((C 16 1 + 1).toNat) g) 17 ((C 16 1 + 2).toNat) v) 16 1 (C 16 1 + 3)
abbrev wm (M : mm_N) (t g v : Int) : mm_N := mm_f2 (mm_f2 (mm_f2 (mm_f2 M 38 ((M 31 8).toNat) t) 38 ((M 31 8 + 1).toNat) g) 38 ((M 31 8 + 2).toNat) v) 31 8 (M 31 8 + 3)
theorem wc_17 (C : mm_N) (t g v : Int) (j : Nat) : wc C t g v 17 j = if j = (C 16 1 + 2).toNat then v else (if j = (C 16 1 + 1).toNat then g else (if j = (C 16 1).toNat then t else C 17 j)) := by
  show mm_f2 (mm_f2 (mm_f2 C 17 ((C 16 1).toNat) t) 17 ((C 16 1 + 1).toNat) g) 17 ((C 16 1 + 2).toNat) v 17 j = _
  rw [f2_j, f2_j, f2_j]
theorem wm_38 (M : mm_N) (t g v : Int) (j : Nat) : wm M t g v 38 j = if j = (M 31 8 + 2).toNat then v else (if j = (M 31 8 + 1).toNat then g else (if j = (M 31 8).toNat then t else M 38 j)) := by
  show mm_f2 (mm_f2 (mm_f2 M 38 ((M 31 8).toNat) t) 38 ((M 31 8 + 1).toNat) g) 38 ((M 31 8 + 2).toNat) v 38 j = _
  rw [f2_j, f2_j, f2_j]
theorem wc_like {C : mm_N} {t g v : Int} {m : Nat} (h : (3 * (m : Int)) ≤ C 16 1) : ∀ j, j < 3 * m → C 17 j = wc C t g v 17 j := by
  intro j hj
  rw [wc_17, if_neg (by omega), if_neg (by omega), if_neg (by omega)]
theorem RL_wr {C M : mm_N} {t g v : Int} (h : RL C M) (hup : ¬ C 13 2 = 0) (hev : ¬ C 0 7 = 0) (hok : lg_ok (C 2) (wc C t g v 17) (mC C)) : C 16 1 + 3 ≤ 288 ∧ RL (n_D_readRecord (wc C t g v) (((C 16 1 + 3) / 3) - 1)) (wm M t g v) := by
  obtain ⟨hA, hB, hC, hD, hE, hV, hS, hG, hH, hI⟩ := h
  have hle := sC_le hE
  obtain ⟨e1, e2, e3, e4, e5, e6⟩ := hE
  have hw3 : C 16 1 = 3 * (mC C : Int) := by have := hV.2.1 hup; unfold mC; omega
  have like := wc_like (C := C) (t := t) (g := g) (v := v) (m := mC C) (by omega)
  obtain ⟨l1, l2⟩ := lg_like like
  have hva : lg_va (C 2) (wc C t g v 17) (mC C + 1) := ⟨lg_va_like like hV.1, hok⟩
  have h96 := lg_96 (fun k hk => (hA.1.1 k hk).2) hva
  have f0 : wc C t g v 17 (3 * mC C) = t := by rw [wc_17, if_neg (by omega), if_neg (by omega), if_pos (by omega)]
  have f1 : wc C t g v 17 (3 * mC C + 1) = g := by rw [wc_17, if_neg (by omega), if_pos (by omega)]
  have hg : 0 ≤ g ∧ g < 12 := by
    have h12 := lg_cn_12 hva.1
    have h0 := lg_cn_0 (wc C t g v 17) (mC C)
    unfold lg_ok at hok
    rw [f1] at hok
    rcases hok with z | z | z <;> omega
  have rows : ∀ i, i < 12 → wc C t g v (19 + i) = C (19 + i) := fun i hi => by unfold wc; rw [mm_f2_row (by omega), mm_f2_row (by omega), mm_f2_row (by omega), mm_f2_row (by omega)]
  have hcC : cC (wc C t g v) (wc C t g v 17) (mC C) := by
    refine ⟨hS.1.1.trans l1, fun i hi => ?_⟩
    have h12 := lg_cn_12 hva.1
    rw [rows i (by omega)]
    obtain ⟨j1, j2, j3, j4, j5, j6⟩ := l2 i
    rw [← j1, ← j2, ← j3, ← j4, ← j5]
    exact hS.1.2 i (by rw [l1]; exact hi)
  have hp : ((C 16 1 + 3) / 3) - 1 = (mC C : Int) := by omega
  obtain ⟨u1, u2⟩ := rr_up (N := wc C t g v) (f := wc C t g v 17) (p := mC C) hcC (wr_S hS.2) hA.1 (by omega) rfl rfl rfl hva
  refine ⟨by omega, ?_⟩
  rw [hp]
  have hgt : (wc C t g v 17 ((3 * (mC C : Int)) + 1).toNat).toNat < 12 := by
    rw [show ((3 * (mC C : Int)) + 1).toNat = 3 * mC C + 1 by omega, f1]
    omega
  have ro : ∀ a, a ≠ 0 → (∀ n, n < 12 → a ≠ 19 + n) → n_D_readRecord (wc C t g v) (mC C) a = wc C t g v a := fun a h0 hn => rr_row h0 hn hgt
  have r07 : n_D_readRecord (wc C t g v) (mC C) 0 7 = C 0 7 := rr_0 (by omega)
  have r2 : n_D_readRecord (wc C t g v) (mC C) 2 = C 2 := ro 2 (by omega) (by omega)
  have r3 : n_D_readRecord (wc C t g v) (mC C) 3 = C 3 := ro 3 (by omega) (by omega)
  have r4 : n_D_readRecord (wc C t g v) (mC C) 4 = C 4 := ro 4 (by omega) (by omega)
  have r5 : n_D_readRecord (wc C t g v) (mC C) 5 = C 5 := ro 5 (by omega) (by omega)
  have r7 : n_D_readRecord (wc C t g v) (mC C) 7 = C 7 := ro 7 (by omega) (by omega)
  have r8 : n_D_readRecord (wc C t g v) (mC C) 8 = C 8 := ro 8 (by omega) (by omega)
  have r9 : n_D_readRecord (wc C t g v) (mC C) 9 = C 9 := ro 9 (by omega) (by omega)
  have r10 : n_D_readRecord (wc C t g v) (mC C) 10 = C 10 := ro 10 (by omega) (by omega)
  have r11 : n_D_readRecord (wc C t g v) (mC C) 11 = C 11 := ro 11 (by omega) (by omega)
  have r12 : n_D_readRecord (wc C t g v) (mC C) 12 = C 12 := ro 12 (by omega) (by omega)
  have r13 : n_D_readRecord (wc C t g v) (mC C) 13 = C 13 := ro 13 (by omega) (by omega)
  have r14 : n_D_readRecord (wc C t g v) (mC C) 14 = C 14 := ro 14 (by omega) (by omega)
  have r15 : n_D_readRecord (wc C t g v) (mC C) 15 = C 15 := ro 15 (by omega) (by omega)
  have r161 : n_D_readRecord (wc C t g v) (mC C) 16 1 = C 16 1 + 3 := by rw [ro 16 (by omega) (by omega)]; rfl
  have r162 : n_D_readRecord (wc C t g v) (mC C) 16 2 = C 16 2 := by rw [ro 16 (by omega) (by omega)]; rfl
  have r17 : n_D_readRecord (wc C t g v) (mC C) 17 = wc C t g v 17 := ro 17 (by omega) (by omega)
  generalize n_D_readRecord (wc C t g v) (mC C) = C2 at *
  have hm2 : mC C2 = mC C + 1 := by unfold mC at hw3 ⊢; rw [r161]; omega
  have hs2 : sC C2 = sC C := by unfold sC; rw [r162]
  have hcs : lg_cn (C2 17) (sC C2) = lg_cn (C 17) (sC C) := by
    rw [r17, hs2]
    exact (lg_like (f := C 17) (g := wc C t g v 17) (m := sC C) (fun j hj => like j (by omega))).1.symm
  have hk : ∀ s, 0 ≤ s → s < lg_cn (C 17) (sC C) → lg_k (C2 17) s (mC C2) = lg_k (C 17) s (mC C) := by
    intro s h0 hs
    rw [r17, hm2, lg_k_keep (n := mC C) h0 (by rw [← l1]; have := lg_cn_mono (C 17) hle; omega) (Nat.le_succ _) hva]
    exact (l2 s).1.symm
  have hnd : ∀ s t, 0 ≤ s → s < lg_cn (C 17) (sC C) → nd C2 s t = nd C s t := by
    intro s t h0 hs
    unfold nd
    rw [hk s h0 hs, r3]
  refine ⟨?_, ?_, ?_, ?_, ⟨fun j hj => ?_, ?_, ?_, ?_⟩, ⟨?_, fun _ => ?_, fun z => ?_, fun z => ?_⟩, ⟨?_, u2⟩, ⟨?_, ?_, fun j hj => ?_⟩, fun j hj => ?_, ?_⟩
  · unfold gA cK; rw [r2, r3, r4, r5]; exact hA
  · unfold gB; rw [r07]; exact hB
  · unfold gC; rw [r8, r11]; exact hC
  · unfold gD; rw [r13]; exact hD
  · rw [wm_38, r17, wc_17, e2, e1 j hj]
  · show M 31 8 + 3 = C2 16 1
    rw [r161, e2]
  · show M 31 9 = C2 16 2
    rw [r162, e3]
  · rw [r161, r162]
    omega
  · rw [r2, r17, hm2]; exact hva
  · rw [r161]; omega
  · rw [r07] at z; exact absurd z hev
  · rw [r13] at z; exact absurd z hup
  · rw [r17, hm2]; exact u1
  · show M 31 10 = C2 14 1
    rw [r14]; exact hG.1
  · rw [r14]; exact hG.2.1
  · rw [r14] at hj
    obtain ⟨m1, m2, m3, m4, m5⟩ := hG.2.2 j hj
    show gm C2 (C2 15 j) (M 39 j) (M 40 j) (M 41 j) (M 42 j)
    refine ⟨by rw [hcs]; exact m1, by rw [hk _ m1.1 m1.2, r2]; exact m2, m3, m4, ?_⟩
    rw [hnd _ _ m1.1 m1.2, r15]
    exact m5
  · rw [r9, r12]
    rcases hH j hj with a | ⟨a1, a2, a3, a4⟩
    · exact Or.inl a
    · refine Or.inr ⟨a1, by rw [hcs]; exact a2, by rw [hk _ (by omega) a2, r2]; exact a3, ?_⟩
      rw [hnd _ _ (by omega) a2]
      exact a4
  · unfold gI; rw [r7, r9, r10, r12]; exact hI
theorem RL_flag {C M : mm_N} (h : RL C M) : RL (mm_f2 C 0 7 1) (mm_f2 M 31 4 1) := by
  obtain ⟨hA, hB, hC, hD, hE, hV, hS, hG, hH, hI⟩ := h
  exact ⟨hA, ⟨rfl, Or.inr rfl⟩, hC, hD, hE, ⟨hV.1, hV.2.1, fun z => absurd z (by show ¬ (1 : Int) = 0; decide), hV.2.2.2⟩, gS_mv hV hS rfl rfl rfl rfl (fun i hi => mm_f2_row (by omega)), hG, hH, hI⟩
theorem fr_rr {N : mm_N} {p : Int} {a : Nat} (ha : 31 ≤ a) (hg : (N 17 ((3 * p) + 1).toNat).toNat < 12) : n_D_readRecord N p a = N a := rr_row (by omega) (by omega) hg
theorem RL_m4 {C M M2 : mm_N} (h : RL C M2) (h31 : ∀ j, j = 4 ∨ j = 8 ∨ j = 9 ∨ j = 10 → M 31 j = M2 31 j) (hr : ∀ a, 32 ≤ a → M a = M2 a) : RL C M := RL_m (h31 4 (by omega)) (h31 8 (by omega)) (h31 9 (by omega)) (h31 10 (by omega)) (fun a h1 _ => hr a h1) h
