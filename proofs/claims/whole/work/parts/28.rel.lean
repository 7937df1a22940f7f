/-! what the desk's cells say of its log -/
theorem f2_j {N : mm_N} {r j b : Nat} {v : Int} : mm_f2 N r j v r b = if b = j then v else N r b := by
  rw [mm_f2_at]
  by_cases h : b = j
  · rw [if_pos ⟨rfl, h⟩, if_pos h]
  · rw [if_neg (fun z => h z.2), if_neg h]
theorem sr_row {N : mm_N} {n a : Nat} {t v p : Int} (h : a ≠ 19 + n) : n_S_read N n t v p a = N a := by
  unfold n_S_read
  (repeat' split) <;> simp only [mm_f2_row h]
theorem sr_1 {N : mm_N} {n : Nat} {v p : Int} : n_S_read N n 1 v p (19 + n) 0 = v ∧ n_S_read N n 1 v p (19 + n) 1 = 0 ∧ n_S_read N n 1 v p (19 + n) 2 = 0 ∧ n_S_read N n 1 v p (19 + n) 3 = 0 ∧ n_S_read N n 1 v p (19 + n) 4 = p := by
  unfold n_S_read
  rw [if_pos rfl]
  simp [f2_j]
theorem sr_2 {N : mm_N} {n : Nat} {v p : Int} : n_S_read N n 2 v p (19 + n) 0 = N (19 + n) 0 ∧ n_S_read N n 2 v p (19 + n) 1 = N (19 + n) 1 + 1 ∧ n_S_read N n 2 v p (19 + n) 2 = N (19 + n) 2 ∧ n_S_read N n 2 v p (19 + n) 3 = N (19 + n) 3 ∧ n_S_read N n 2 v p (19 + n) 4 = p := by
  unfold n_S_read
  rw [if_neg (by decide), if_pos rfl]
  simp [f2_j]
theorem sr_3 {N : mm_N} {n : Nat} {v p : Int} : n_S_read N n 3 v p (19 + n) 0 = N (19 + n) 0 ∧ n_S_read N n 3 v p (19 + n) 1 = N (19 + n) 1 ∧ n_S_read N n 3 v p (19 + n) 2 = N (19 + n) 2 ∧ n_S_read N n 3 v p (19 + n) 3 = 1 ∧ n_S_read N n 3 v p (19 + n) 4 = p := by
  unfold n_S_read
  rw [if_neg (by decide), if_neg (by decide), if_pos rfl]
  simp [f2_j]
theorem sr_4 {N : mm_N} {n : Nat} {v p : Int} : n_S_read N n 4 v p (19 + n) 0 = N (19 + n) 0 ∧ n_S_read N n 4 v p (19 + n) 1 = N (19 + n) 1 ∧ n_S_read N n 4 v p (19 + n) 2 = N (19 + n) 2 + 1 ∧ n_S_read N n 4 v p (19 + n) 3 = N (19 + n) 3 ∧ n_S_read N n 4 v p (19 + n) 4 = p := by
  unfold n_S_read
  rw [if_neg (by decide), if_neg (by decide), if_neg (by decide), if_pos rfl]
  simp [f2_j]
/-- the sagas' cells are what the first m records say -/
def cC (N : mm_N) (f : Nat → Int) (m : Nat) : Prop := N 0 6 = lg_cn f m ∧ ∀ i : Nat, (i : Int) < lg_cn f m → N (19 + i) 0 = lg_k f i m ∧ N (19 + i) 1 = lg_d f i m ∧ N (19 + i) 2 = lg_u f i m ∧ N (19 + i) 3 = lg_r f i m ∧ 3 * N (19 + i) 4 + 3 = lg_e f i m
theorem rr_row {N : mm_N} {p : Int} {a : Nat} (h0 : a ≠ 0) (h : ∀ n, n < 12 → a ≠ 19 + n) (hg : (N 17 ((3 * p) + 1).toNat).toNat < 12) : n_D_readRecord N p a = N a := by
  unfold n_D_readRecord
  split
  · rw [sr_row (h _ hg), mm_f2_row h0]
  · rw [sr_row (h _ hg)]
theorem rr_0 {N : mm_N} {p : Int} {j : Nat} (h : j ≠ 6) : n_D_readRecord N p 0 j = N 0 j := by
  unfold n_D_readRecord
  split
  · rw [sr_row (by omega), f2_j, if_neg h]
  · rw [sr_row (by omega)]
/-- one more record read -/
theorem rr_up {N : mm_N} {f : Nat → Int} {p : Nat} (hc : cC N f p) (hS : cS N) (hK : cK N) (hp : p < 96) (f0 : N 17 (3 * p) = f (3 * p)) (f1 : N 17 (3 * p + 1) = f (3 * p + 1)) (f2 : N 17 (3 * p + 2) = f (3 * p + 2)) (hv : lg_va (N 2) f (p + 1)) : cC (n_D_readRecord N p) f (p + 1) ∧ cS (n_D_readRecord N p) := by
  have t0 : ((3 * (p : Int))).toNat = 3 * p := by omega
  have t1 : ((3 * (p : Int)) + 1).toNat = 3 * p + 1 := by omega
  have t2 : ((3 * (p : Int)) + 2).toNat = 3 * p + 2 := by omega
  have h12 := lg_cn_12 hv.1
  have h0c := lg_cn_0 f p
  have hcn : lg_cn f (p + 1) = if f (3 * p) = 1 then lg_cn f p + 1 else lg_cn f p := rfl
  have hg : 0 ≤ f (3 * p + 1) ∧ f (3 * p + 1) < 12 := by rcases hv.2 with h | h | h <;> omega
  obtain ⟨n, hn⟩ : ∃ n : Nat, f (3 * p + 1) = (n : Int) := ⟨(f (3 * p + 1)).toNat, by omega⟩
  have hnn : (f (3 * p + 1)).toNat = n := by omega
  have hn12 : n < 12 := by omega
  have hne : ∀ i : Nat, i ≠ n → ¬ f (3 * p + 1) = (i : Int) := fun i hi z => hi (by omega)
  have keep : ∀ i : Nat, i ≠ n → lg_k f i (p + 1) = lg_k f i p ∧ lg_d f i (p + 1) = lg_d f i p ∧ lg_u f i (p + 1) = lg_u f i p ∧ lg_r f i (p + 1) = lg_r f i p ∧ lg_e f i (p + 1) = lg_e f i p := by
    intro i hi
    have := hne i hi
    refine ⟨?_, ?_, ?_, ?_, ?_⟩
    · rw [lg_k, if_neg this]
    · rw [lg_d, if_neg this]
    · rw [lg_u, if_neg this]
    · rw [lg_r, if_neg this]
    · rw [lg_e, if_neg this]
  unfold n_D_readRecord
  rw [t0, t1, t2, f0, f1, f2, hnn]
  rcases hv.2 with h | h | h
  · obtain ⟨g1, g2, g3, g4, g5, g6⟩ := h
    rw [g1, if_pos rfl]
    rw [g1, if_pos rfl] at hcn
    have hnone := lg_none (s := (n : Int)) hv.1 (Or.inr (by omega))
    obtain ⟨s0, s1, s2, s3, s4⟩ := sr_1 (N := mm_f2 N 0 6 (N 0 6 + 1)) (n := n) (v := f (3 * p + 2)) (p := (p : Int))
    have other : ∀ i : Nat, i ≠ n → n_S_read (mm_f2 N 0 6 (N 0 6 + 1)) n 1 (f (3 * p + 2)) p (19 + i) = N (19 + i) := fun i hi => by rw [sr_row (by omega), mm_f2_row (by omega)]
    refine ⟨⟨?_, fun i hi => ?_⟩, fun i hi => ?_⟩
    · rw [sr_row (by omega), f2_j, if_pos rfl, hc.1, hcn]
    · by_cases hin : i = n
      · subst hin
        rw [s0, s1, s2, s3, s4, lg_k, if_pos hn, if_pos g1, lg_d, if_pos hn, if_neg (by omega), lg_u, if_pos hn, if_neg (by omega), lg_r, if_pos hn, hnone.2.2.2.1, if_pos rfl, if_neg (by omega), lg_e, if_pos hn]
        exact ⟨rfl, hnone.2.1.symm, hnone.2.2.1.symm, rfl, rfl⟩
      · rw [other i hin]
        obtain ⟨k1, k2, k3, k4, k5⟩ := keep i hin
        rw [k1, k2, k3, k4, k5]
        exact hc.2 i (by omega)
    · have e2 : n_S_read (mm_f2 N 0 6 (N 0 6 + 1)) n 1 (f (3 * p + 2)) p 2 = N 2 := by rw [sr_row (by omega), mm_f2_row (by omega)]
      rw [e2]
      by_cases hin : i = n
      · subst hin
        rw [s0, s1, s2, s3, s4]
        have := hK.1 (f (3 * p + 2)).toNat (by omega)
        exact ⟨⟨g4, g5⟩, ⟨by omega, by omega, by omega⟩, Or.inl rfl, by omega, by omega⟩
      · rw [other i hin]
        exact hS i hi
  · obtain ⟨g1, g2, g3, g4, g5, g6⟩ := h
    rw [hn] at g2 g3 g4 g5 g6
    obtain ⟨c0, c1, c2, c3, c4⟩ := hc.2 n g3
    have hfit := lg_some g2 hv.1 g3
    obtain ⟨i1, i2, i3, i4, i5⟩ := hfit
    have hSn := hS n hn12
    rcases g1 with g1 | g1
    · rw [g1, if_neg (by decide)]
      rw [g1, if_neg (by decide)] at hcn
      obtain ⟨s0, s1, s2, s3, s4⟩ := sr_2 (N := N) (n := n) (v := f (3 * p + 2)) (p := (p : Int))
      have other : ∀ i : Nat, i ≠ n → n_S_read N n 2 (f (3 * p + 2)) p (19 + i) = N (19 + i) := fun i hi => sr_row (by omega)
      refine ⟨⟨?_, fun i hi => ?_⟩, fun i hi => ?_⟩
      · rw [sr_row (by omega), hc.1, hcn]
      · by_cases hin : i = n
        · subst hin
          rw [s0, s1, s2, s3, s4, lg_k, if_pos hn, if_neg (by omega), lg_d, if_pos hn, if_pos g1, lg_u, if_pos hn, if_neg (by omega), lg_r, if_pos hn, if_pos g4, if_neg (by omega), lg_e, if_pos hn]
          exact ⟨c0, by rw [c1], c2, by rw [c3, g4], rfl⟩
        · rw [other i hin]
          obtain ⟨k1, k2, k3, k4, k5⟩ := keep i hin
          rw [k1, k2, k3, k4, k5]
          exact hc.2 i (by omega)
      · have e2 : n_S_read N n 2 (f (3 * p + 2)) p 2 = N 2 := sr_row (by omega)
        rw [e2]
        by_cases hin : i = n
        · subst hin
          rw [s0, s1, s2, s3, s4]
          rw [← c0, ← c1] at g6
          exact ⟨hSn.1, ⟨hSn.2.1.1, by omega, by omega⟩, hSn.2.2.1, by omega, by omega⟩
        · rw [other i hin]
          exact hS i hi
    · rw [g1, if_neg (by decide)]
      rw [g1, if_neg (by decide)] at hcn
      obtain ⟨s0, s1, s2, s3, s4⟩ := sr_3 (N := N) (n := n) (v := f (3 * p + 2)) (p := (p : Int))
      have other : ∀ i : Nat, i ≠ n → n_S_read N n 3 (f (3 * p + 2)) p (19 + i) = N (19 + i) := fun i hi => sr_row (by omega)
      refine ⟨⟨?_, fun i hi => ?_⟩, fun i hi => ?_⟩
      · rw [sr_row (by omega), hc.1, hcn]
      · by_cases hin : i = n
        · subst hin
          rw [s0, s1, s2, s3, s4, lg_k, if_pos hn, if_neg (by omega), lg_d, if_pos hn, if_neg (by omega), lg_u, if_pos hn, if_neg (by omega), lg_r, if_pos hn, if_pos g4, if_pos g1, lg_e, if_pos hn]
          exact ⟨c0, c1, c2, rfl, rfl⟩
        · rw [other i hin]
          obtain ⟨k1, k2, k3, k4, k5⟩ := keep i hin
          rw [k1, k2, k3, k4, k5]
          exact hc.2 i (by omega)
      · have e2 : n_S_read N n 3 (f (3 * p + 2)) p 2 = N 2 := sr_row (by omega)
        rw [e2]
        by_cases hin : i = n
        · subst hin
          rw [s0, s1, s2, s3, s4]
          exact ⟨hSn.1, hSn.2.1, Or.inr rfl, by omega, by omega⟩
        · rw [other i hin]
          exact hS i hi
  · obtain ⟨g1, g2, g3, g4, g5, g6⟩ := h
    rw [hn] at g2 g3 g4 g5 g6
    obtain ⟨c0, c1, c2, c3, c4⟩ := hc.2 n g3
    have hSn := hS n hn12
    rw [g1, if_neg (by decide)]
    rw [g1, if_neg (by decide)] at hcn
    obtain ⟨s0, s1, s2, s3, s4⟩ := sr_4 (N := N) (n := n) (v := f (3 * p + 2)) (p := (p : Int))
    have other : ∀ i : Nat, i ≠ n → n_S_read N n 4 (f (3 * p + 2)) p (19 + i) = N (19 + i) := fun i hi => sr_row (by omega)
    refine ⟨⟨?_, fun i hi => ?_⟩, fun i hi => ?_⟩
    · rw [sr_row (by omega), hc.1, hcn]
    · by_cases hin : i = n
      · subst hin
        rw [s0, s1, s2, s3, s4, lg_k, if_pos hn, if_neg (by omega), lg_d, if_pos hn, if_neg (by omega), lg_u, if_pos hn, if_pos g1, lg_r, if_pos hn, if_neg (by omega), lg_e, if_pos hn]
        exact ⟨c0, c1, by rw [c2], by rw [c3, g4], rfl⟩
      · rw [other i hin]
        obtain ⟨k1, k2, k3, k4, k5⟩ := keep i hin
        rw [k1, k2, k3, k4, k5]
        exact hc.2 i (by omega)
    · have e2 : n_S_read N n 4 (f (3 * p + 2)) p 2 = N 2 := sr_row (by omega)
      rw [e2]
      by_cases hin : i = n
      · subst hin
        rw [s0, s1, s2, s3, s4]
        exact ⟨hSn.1, ⟨by omega, by omega, hSn.2.1.2.2⟩, hSn.2.2.1, by omega, by omega⟩
      · rw [other i hin]
        exact hS i hi
