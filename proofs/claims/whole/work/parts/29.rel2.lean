/-! the relation between the desk's numbers and the reference's -/
def mC (C : mm_N) : Nat := (C 16 1 / 3).toNat
def sC (C : mm_N) : Nat := (C 16 2 / 3).toNat
def nd (C : mm_N) (s t : Int) : Int := if C 3 (4 * lg_k (C 17) s (mC C) + t).toNat = 2 then 1 else 0
def gm (C : mm_N) (z s t u w : Int) : Prop := (0 ≤ s ∧ s < lg_cn (C 17) (sC C)) ∧ (0 ≤ t ∧ t < C 2 (lg_k (C 17) s (mC C)).toNat) ∧ (0 ≤ u ∧ u < 2) ∧ (0 ≤ w ∧ w < 3) ∧ z = 1000 * s + 100 * t + 10 * w + 2 * nd C s t + u
def ga (C : mm_N) (a x y s t : Int) : Prop := (a = 0 ∧ x = 0 ∧ y = 0) ∨ ((a = 1 ∨ a = 2) ∧ s < lg_cn (C 17) (sC C) ∧ t < C 2 (lg_k (C 17) s (mC C)).toNat ∧ ((nd C s t = 0 ∧ x = a ∧ y = 0) ∨ (nd C s t = 1 ∧ x = 0 ∧ y = a)))
def cz (f : Nat → Int) : Nat → Int
  | 0 => 0
  | i + 1 => if f i = 0 then cz f i else cz f i + 1
def gA (C M : mm_N) : Prop := cK C ∧ (∀ k, k < 4 → M 32 k = C 2 k) ∧ ∀ p, p < 16 → M 33 p = C 3 p ∧ M 34 p = C 4 p ∧ M 35 p = C 5 p
def gB (C M : mm_N) : Prop := M 31 4 = C 0 7 ∧ (C 0 7 = 0 ∨ C 0 7 = 1)
def gC (C M : mm_N) : Prop := ∀ t, t < 8 → M 36 t = C 8 t ∧ M 36 (8 + t) = C 11 t
def gD (C M : mm_N) : Prop := ∀ n, n < 3 → M 37 n = C 13 n ∧ (C 13 n = 0 ∨ C 13 n = 1)
def gE (C M : mm_N) : Prop := (∀ j, j < 288 → M 38 j = C 17 j) ∧ M 31 8 = C 16 1 ∧ M 31 9 = C 16 2 ∧ 0 ≤ C 16 2 ∧ C 16 2 ≤ C 16 1 ∧ C 16 1 ≤ 288
def gV (C : mm_N) : Prop := lg_va (C 2) (C 17) (mC C) ∧ (¬ C 13 2 = 0 → C 16 1 % 3 = 0) ∧ (C 0 7 = 0 → C 16 1 = 0) ∧ (C 13 2 = 0 → C 16 1 = C 16 2)
def gS (C : mm_N) : Prop := cC C (C 17) (mC C) ∧ cS C
def gG (C M : mm_N) : Prop := M 31 10 = C 14 1 ∧ (0 ≤ C 14 1 ∧ C 14 1 ≤ 24) ∧ ∀ j : Nat, (j : Int) < C 14 1 → gm C (C 15 j) (M 39 j) (M 40 j) (M 41 j) (M 42 j)
def gH (C M : mm_N) : Prop := ∀ j : Nat, j < 96 → ga C (M 43 j) (C 9 j) (C 12 j) ((j : Int) / 8) (((j : Int) % 8) / 2)
def gI (C : mm_N) : Prop := C 7 2 = cz (C 9) 96 ∧ C 10 2 = cz (C 12) 96
def RL (C M : mm_N) : Prop := gA C M ∧ gB C M ∧ gC C M ∧ gD C M ∧ gE C M ∧ gV C ∧ gS C ∧ gG C M ∧ gH C M ∧ gI C
/-- on the reference's side the relation reads four numbers and twelve rows -/
theorem RL_m {C M M2 : mm_N} (h4 : M2 31 4 = M 31 4) (h8 : M2 31 8 = M 31 8) (h9 : M2 31 9 = M 31 9) (h10 : M2 31 10 = M 31 10) (hr : ∀ a, 32 ≤ a → a < 44 → M2 a = M a) (h : RL C M) : RL C M2 := by
  obtain ⟨hA, hB, hC, hD, hE, hV, hS, hG, hH, hI⟩ := h
  refine ⟨⟨hA.1, ?_, ?_⟩, ?_, ?_, ?_, ⟨?_, ?_⟩, hV, hS, ⟨?_, hG.2.1, ?_⟩, ?_, hI⟩
  · rw [hr 32 (by omega) (by omega)]; exact hA.2.1
  · rw [hr 33 (by omega) (by omega), hr 34 (by omega) (by omega), hr 35 (by omega) (by omega)]; exact hA.2.2
  · unfold gB; rw [h4]; exact hB
  · unfold gC; rw [hr 36 (by omega) (by omega)]; exact hC
  · unfold gD; rw [hr 37 (by omega) (by omega)]; exact hD
  · rw [hr 38 (by omega) (by omega)]; exact hE.1
  · rw [h8, h9]; exact hE.2
  · rw [h10]; exact hG.1
  · rw [hr 39 (by omega) (by omega), hr 40 (by omega) (by omega), hr 41 (by omega) (by omega), hr 42 (by omega) (by omega)]; exact hG.2.2
  · unfold gH; rw [hr 43 (by omega) (by omega)]; exact hH
theorem RL_rd {C M : mm_N} {a b c d e : Int} (h : RL C M) : RL C (rd M a b c d e) := RL_m (M := M) rfl rfl rfl rfl (fun k h1 h2 => (mm_f0_ne (by omega) : mm_f0 M 31 _ k = M k)) h
theorem RL_hi {C M M2 : mm_N} (hr : ∀ a, 31 ≤ a → M2 a = M a) (h : RL C M) : RL C M2 := RL_m (by rw [hr 31 (by omega)]) (by rw [hr 31 (by omega)]) (by rw [hr 31 (by omega)]) (by rw [hr 31 (by omega)]) (fun a h1 _ => hr a (by omega)) h
theorem cC_mv {N N1 : mm_N} {f : Nat → Int} {m : Nat} (h : cC N f m) (h12 : lg_cn f m ≤ 12) (h0 : N1 0 6 = N 0 6) (hr : ∀ i, i < 12 → N1 (19 + i) = N (19 + i)) : cC N1 f m := by
  refine ⟨by rw [h0]; exact h.1, fun i hi => ?_⟩
  rw [hr i (by omega)]
  exact h.2 i hi
theorem gS_mv {C C2 : mm_N} (hV : gV C) (h : gS C) (h0 : C2 0 6 = C 0 6) (h2 : C2 2 = C 2) (h16 : C2 16 1 = C 16 1) (h17 : C2 17 = C 17) (hr : ∀ i, i < 12 → C2 (19 + i) = C (19 + i)) : gS C2 := by
  refine ⟨?_, cS_mv h.2 h2 hr⟩
  have : mC C2 = mC C := by unfold mC; rw [h16]
  rw [this, h17]
  exact cC_mv h.1 (lg_cn_12 hV.1) h0 hr
/-- on the desk's side: all rows below 31 -/
theorem RL_lo {C C2 M : mm_N} (hr : ∀ a, a < 31 → C2 a = C a) (h : RL C M) : RL C2 M := by
  obtain ⟨hA, hB, hC, hD, hE, hV, hS, hG, hH, hI⟩ := h
  have r0 := hr 0 (by omega)
  have r2 := hr 2 (by omega)
  have r3 := hr 3 (by omega)
  have r4 := hr 4 (by omega)
  have r5 := hr 5 (by omega)
  have r7 := hr 7 (by omega)
  have r8 := hr 8 (by omega)
  have r9 := hr 9 (by omega)
  have r10 := hr 10 (by omega)
  have r11 := hr 11 (by omega)
  have r12 := hr 12 (by omega)
  have r13 := hr 13 (by omega)
  have r14 := hr 14 (by omega)
  have r15 := hr 15 (by omega)
  have r16 := hr 16 (by omega)
  have r17 := hr 17 (by omega)
  have hm : mC C2 = mC C := by unfold mC; rw [r16]
  have hs : sC C2 = sC C := by unfold sC; rw [r16]
  have hn : nd C2 = nd C := by funext s t; unfold nd; rw [hm, r17, r3]
  refine ⟨?_, ?_, ?_, ?_, ?_, ?_, ?_, ?_, ?_, ?_⟩
  · unfold gA cK; rw [r2, r3, r4, r5]; exact hA
  · unfold gB; rw [r0]; exact hB
  · unfold gC; rw [r8, r11]; exact hC
  · unfold gD; rw [r13]; exact hD
  · unfold gE; rw [r16, r17]; exact hE
  · unfold gV; rw [hm, r2, r17, r13, r16, r0]; exact hV
  · exact gS_mv hV hS (by rw [r0]) r2 (by rw [r16]) r17 (fun i hi => hr _ (by omega))
  · unfold gG gm; rw [r14, r15, r17, r2, hs, hm, hn]; exact hG
  · unfold gH ga; rw [r9, r12, r17, r2, hs, hm, hn]; exact hH
  · unfold gI; rw [r7, r9, r10, r12]; exact hI
/-- the reference reads the same of its log -/
theorem qL {C M : mm_N} (hE : gE C M) (s : Int) : kq M s = lg_k (C 17) s (mC C) ∧ dq M s = lg_d (C 17) s (mC C) ∧ uq M s = lg_u (C 17) s (mC C) ∧ rq M s = lg_r (C 17) s (mC C) ∧ zq M s = lg_e (C 17) s (mC C) ∧ r_M_sagas M = lg_cn (C 17) (mC C) := by
  obtain ⟨e1, e2, e3, e4, e5, e6⟩ := hE
  have hm : (M 31 8 / 3).toNat = mC C := by unfold mC; rw [e2]
  have hlt : 3 * mC C ≤ 288 := by unfold mC; omega
  obtain ⟨l1, l2⟩ := lg_like (f := M 38) (g := C 17) (m := mC C) (fun j hj => e1 j (by omega))
  obtain ⟨j1, j2, j3, j4, j5, j6⟩ := l2 s
  unfold kq dq uq rq zq r_M_sagas
  rw [hm]
  exact ⟨j1, j2, j3, j4, j5, l1⟩
theorem mV_of {C M : mm_N} (h : RL C M) : mV M := by
  obtain ⟨hA, hB, hC, hD, hE, hV, hS, hG, hH, hI⟩ := h
  intro s
  rw [(qL hE s).1]
  by_cases hs : 0 ≤ s ∧ s < lg_cn (C 17) (mC C)
  · exact (lg_some hs.1 hV.1 hs.2).1.2.1
  · have := (lg_none (s := s) hV.1 (by omega)).1
    omega
theorem hw_of {C M : mm_N} (hE : gE C M) : 0 ≤ M 31 8 ∧ M 31 8 < 289 := by
  obtain ⟨e1, e2, e3, e4, e5, e6⟩ := hE
  omega
/-- a saga that is there: waiting, its next step, its kind are the same on both sides -/
theorem wq {C M : mm_N} (h : RL C M) {s : Int} (hs : 0 ≤ s ∧ s < C 0 6) : r_M_waits (rd M (kq M s) (dq M s) (uq M s) (rq M s) (zq M s)) = r_D_isWaiting C s ∧ r_M_nextStep (rd M (kq M s) (dq M s) (uq M s) (rq M s) (zq M s)) = r_S_nextStep C s.toNat ∧ r_M_over (rd M (kq M s) (dq M s) (uq M s) (rq M s) (zq M s)) = r_S_isOver C s.toNat ∧ rq M s = C (19 + s.toNat) 3 ∧ kq M s = C (19 + s.toNat) 0 ∧ dq M s = C (19 + s.toNat) 1 ∧ uq M s = C (19 + s.toNat) 2 := by
  obtain ⟨hA, hB, hC, hD, hE, hV, hS, hG, hH, hI⟩ := h
  obtain ⟨q1, q2, q3, q4, q5, q6⟩ := qL hE s
  have hcn := hS.1.1
  obtain ⟨n, rfl⟩ : ∃ n : Nat, s = (n : Int) := ⟨s.toNat, by omega⟩
  have hn : ((n : Int)).toNat = n := by omega
  obtain ⟨c0, c1, c2, c3, c4⟩ := hS.1.2 n (by omega)
  have hfit := lg_some hs.1 hV.1 (show (n : Int) < lg_cn (C 17) (mC C) by omega)
  have k0 := hfit.1
  rw [← c0] at q1
  rw [← c1] at q2
  rw [← c2] at q3
  rw [← c3] at q4
  rw [← c4] at q5
  rw [← c0] at k0
  have hov : r_M_over (rd M (kq M n) (dq M n) (uq M n) (rq M n) (zq M n)) = r_S_isOver C n := by
    show (if rq M n = 0 then (if dq M n = M 32 (kq M n).toNat then (1 : Int) else 0) else (if uq M n = dq M n then 1 else 0)) = _
    rw [q1, q2, q3, q4, hA.2.1 _ (by omega)]
    rfl
  rw [hn]
  refine ⟨?_, ?_, hov, q4, q1, q2, q3⟩
  · show (if kq M n < 0 then (0 : Int) else (if r_M_over (rd M (kq M n) (dq M n) (uq M n) (rq M n) (zq M n)) = 0 then (if M 31 9 < zq M n then 0 else 1) else 0)) = _
    rw [hov, q1, if_neg (by omega), q5, hE.2.2.1]
    unfold r_D_isWaiting r_G_isSafe
    rw [hn]
    by_cases h1 : r_S_isOver C n = 0
    · rw [if_pos h1, if_pos h1]
      by_cases h2 : C 16 2 < 3 * (C (19 + n) 4 + 1)
      · rw [if_pos h2, if_pos rfl, if_pos (by omega)]
      · rw [if_neg h2, if_neg (show ¬ C 16 2 < 3 * C (19 + n) 4 + 3 by omega)]
        rfl
    · rw [if_neg h1, if_neg h1]
  · show (if rq M n = 0 then dq M n else (dq M n - uq M n) - 1) = _
    rw [q2, q3, q4]
    rfl
/-- a saga whose records are all safe has begun there -/
theorem lg_e_cn {c f : Nat → Int} {s : Int} {n : Nat} (h0s : 0 ≤ s) (hs : lg_cn f n ≤ s) : ∀ {m : Nat}, n ≤ m → lg_va c f m → s < lg_cn f m → 3 * (n : Int) < lg_e f s m := by
  intro m hm
  induction hm with
  | refl => intro _ h; omega
  | @step m hm ih =>
    intro hv h
    show 3 * (n : Int) < (if f (3 * m + 1) = s then 3 * (m : Int) + 3 else lg_e f s m)
    by_cases he : f (3 * m + 1) = s
    · rw [if_pos he]
      have : n ≤ m := hm
      omega
    · rw [if_neg he]
      refine ih hv.1 ?_
      have hcn : lg_cn f (m + 1) = if f (3 * m) = 1 then lg_cn f m + 1 else lg_cn f m := rfl
      have h : s < lg_cn f (m + 1) := h
      by_cases h1 : f (3 * m) = 1
      · rw [if_pos h1] at hcn
        rcases hv.2 with g | g | g
        · omega
        · rcases g.1 with g1 | g1 <;> omega
        · omega
      · rw [if_neg h1] at hcn
        omega
