/-! a request delivered -/
theorem wr_an (a b : Int) : mm_wr (a + mm_wr (-b)) = mm_wr (a - b) := by
  show (Int32.ofInt (a + mm_wr (-b))).toInt = (Int32.ofInt (a - b)).toInt
  rw [Int32.ofInt_add, mm_of_wr, ← Int32.ofInt_add, Int.sub_eq_add_neg]
theorem wr_sn (a b : Int) : mm_wr (a - mm_wr (-b)) = mm_wr (a + b) := by
  show (Int32.ofInt (a - mm_wr (-b))).toInt = (Int32.ofInt (a + b)).toInt
  rw [Int32.ofInt_sub, mm_of_wr, ← Int32.ofInt_sub, Int.sub_neg]
theorem RL_st {C M : mm_N} (h : RL C M) {d : Int} {x : Int} (hd : d = 0 ∨ d = 1) (hx : 0 ≤ x ∧ x < 8) (v : Int) : RL (mm_f2 C (8 + 3 * d.toNat) x.toNat v) (mm_f2 M 36 (8 * d + x).toNat v) := by
  obtain ⟨hA, hB, hC, hD, hE, hV, hS, hG, hH, hI⟩ := h
  rcases hd with rfl | rfl
  · refine ⟨hA, hB, fun j hj => ?_, hD, hE, hV, gS_mv hV hS rfl rfl rfl rfl (fun i hi => mm_f2_row (by show 19 + i ≠ 8; omega)), hG, hH, hI⟩
    show mm_f2 M 36 (8 * 0 + x).toNat v 36 j = mm_f2 C 8 x.toNat v 8 j ∧ mm_f2 M 36 (8 * 0 + x).toNat v 36 (8 + j) = C 11 j
    rw [f2_j, f2_j, f2_j, show (8 * 0 + x).toNat = x.toNat by omega, if_neg (show ¬ 8 + j = x.toNat by omega)]
    refine ⟨?_, (hC j hj).2⟩
    by_cases hjt : j = x.toNat
    · rw [if_pos hjt, if_pos hjt]
    · rw [if_neg hjt, if_neg hjt]; exact (hC j hj).1
  · refine ⟨hA, hB, fun j hj => ?_, hD, hE, hV, gS_mv hV hS rfl rfl rfl rfl (fun i hi => mm_f2_row (by show 19 + i ≠ 11; omega)), hG, hH, hI⟩
    show mm_f2 M 36 (8 * 1 + x).toNat v 36 j = C 8 j ∧ mm_f2 M 36 (8 * 1 + x).toNat v 36 (8 + j) = mm_f2 C 11 x.toNat v 11 j
    rw [f2_j, f2_j, f2_j, if_neg (show ¬ j = (8 * 1 + x).toNat by omega)]
    refine ⟨(hC j hj).1, ?_⟩
    by_cases hjt : j = x.toNat
    · rw [if_pos hjt, if_pos (by omega)]
    · rw [if_neg hjt, if_neg (by omega)]; exact (hC j hj).2
/-- one more answer is counted -/
theorem cz_up {f g : Nat → Int} {k : Nat} {a : Int} (h0 : f k = 0) (ha : ¬ a = 0) (hg : ∀ j, g j = if j = k then a else f j) : ∀ i : Nat, cz g i = if k < i then cz f i + 1 else cz f i
  | 0 => by rw [if_neg (by omega)]; rfl
  | i + 1 => by
    have ih := cz_up h0 ha hg i
    show (if g i = 0 then cz g i else cz g i + 1) = if k < i + 1 then (if f i = 0 then cz f i else cz f i + 1) + 1 else (if f i = 0 then cz f i else cz f i + 1)
    rw [hg i, ih]
    by_cases hik : i = k
    · subst hik
      rw [if_pos rfl, if_neg ha, if_neg (Nat.lt_irrefl _), if_pos (Nat.lt_succ_self _), if_pos h0]
    · rw [if_neg hik]
      by_cases hk : k < i
      · rw [if_pos hk, if_pos (show k < i + 1 by omega)]
        split <;> rfl
      · rw [if_neg hk, if_neg (show ¬ k < i + 1 by omega)]
theorem cz_b (f : Nat → Int) : ∀ i : Nat, 0 ≤ cz f i ∧ cz f i ≤ i
  | 0 => by show (0 : Int) ≤ 0 ∧ (0 : Int) ≤ ((0 : Nat) : Int); omega
  | i + 1 => by
    have := cz_b f i
    show 0 ≤ (if f i = 0 then cz f i else cz f i + 1) ∧ (if f i = 0 then cz f i else cz f i + 1) ≤ ((i + 1 : Nat) : Int)
    split <;> omega
/-- an answer is kept -/
theorem RL_an {C M : mm_N} (h : RL C M) {s t u a : Int} (hs : 0 ≤ s ∧ s < lg_cn (C 17) (sC C)) (ht : 0 ≤ t ∧ t < C 2 (lg_k (C 17) s (mC C)).toNat) (hu : 0 ≤ u ∧ u < 2) (h0 : M 43 ((8 * s + 2 * t) + u).toNat = 0) (ha : a = 1 ∨ a = 2) : RL (mm_f2 (mm_f2 C (9 + 3 * (nd C s t).toNat) ((8 * s + 2 * t) + u).toNat a) (7 + 3 * (nd C s t).toNat) 2 (C (7 + 3 * (nd C s t).toNat) 2 + 1)) (mm_f2 M 43 ((8 * s + 2 * t) + u).toNat a) := by
  obtain ⟨b1, b2, b3, b4, b5, b6, b7⟩ := sb h hs.1 hs.2 ht
  obtain ⟨hA, hB, hC, hD, hE, hV, hS, hG, hH, hI⟩ := h
  obtain ⟨k, hk⟩ : ∃ k : Nat, ((8 * s + 2 * t) + u) = (k : Int) := ⟨((8 * s + 2 * t) + u).toNat, by omega⟩
  have hkn : ((8 * s + 2 * t) + u).toNat = k := by omega
  have hk96 : k < 96 := by omega
  have hks : (k : Int) / 8 = s := by omega
  have hkt : ((k : Int) % 8) / 2 = t := by omega
  rw [hkn] at h0 ⊢
  have hHk := hH k hk96
  have hxy : C 9 k = 0 ∧ C 12 k = 0 := by
    rcases hHk with ⟨x1, x2, x3⟩ | ⟨x1, x2⟩
    · exact ⟨x2, x3⟩
    · omega
  rcases b7 with b7 | b7
  · rw [b7]
    refine ⟨hA, hB, hC, hD, hE, hV, gS_mv hV hS rfl rfl rfl rfl (fun i hi => ?_), hG, fun j hj => ?_, ?_, ?_⟩
    · rw [mm_f2_row (by show 19 + i ≠ 7; omega), mm_f2_row (by show 19 + i ≠ 9; omega)]
    · show ga C (mm_f2 M 43 k a 43 j) (mm_f2 C 9 k a 9 j) (C 12 j) ((j : Int) / 8) (((j : Int) % 8) / 2)
      rw [f2_j, f2_j]
      by_cases hjk : j = k
      · rw [if_pos hjk, if_pos hjk, hjk, hks, hkt]
        exact Or.inr ⟨ha, hs.2, ht.2, Or.inl ⟨b7, rfl, hxy.2⟩⟩
      · rw [if_neg hjk, if_neg hjk]
        exact hH j hj
    · show C 7 2 + 1 = cz (mm_f2 C 9 k a 9) 96
      rw [cz_up (f := C 9) (k := k) (a := a) hxy.1 (by omega) (fun j => f2_j) 96, if_pos hk96, hI.1]
    · exact hI.2
  · rw [b7]
    refine ⟨hA, hB, hC, hD, hE, hV, gS_mv hV hS rfl rfl rfl rfl (fun i hi => ?_), hG, fun j hj => ?_, ?_, ?_⟩
    · rw [mm_f2_row (by show 19 + i ≠ 10; omega), mm_f2_row (by show 19 + i ≠ 12; omega)]
    · show ga C (mm_f2 M 43 k a 43 j) (C 9 j) (mm_f2 C 12 k a 12 j) ((j : Int) / 8) (((j : Int) % 8) / 2)
      rw [f2_j, f2_j]
      by_cases hjk : j = k
      · rw [if_pos hjk, if_pos hjk, hjk, hks, hkt]
        exact Or.inr ⟨ha, hs.2, ht.2, Or.inr ⟨b7, hxy.1, rfl⟩⟩
      · rw [if_neg hjk, if_neg hjk]
        exact hH j hj
    · exact hI.1
    · show C 10 2 + 1 = cz (mm_f2 C 12 k a 12) 96
      rw [cz_up (f := C 12) (k := k) (a := a) hxy.2 (by omega) (fun j => f2_j) 96, if_pos hk96, hI.2]
/-- what a message says -/
theorem gm_d {C M : mm_N} (h : RL C M) {z s t u w : Int} (hg : gm C z s t u w) : z / 1000 = s ∧ (z / 100) % 10 = t ∧ (z / 10) % 10 = w ∧ (z % 10) / 2 = nd C s t ∧ r_D_isToUndo C z = u ∧ r_D_nameOf C z = (8 * s + 2 * t) + u ∧ (0 ≤ z ∧ z < 20000) ∧ C (19 + s.toNat) 0 = lg_k (C 17) s (mC C) := by
  obtain ⟨m1, m2, m3, m4, m5⟩ := hg
  obtain ⟨b1, b2, b3, b4, b5, b6, b7⟩ := sb h m1.1 m1.2 m2
  have hS := h.2.2.2.2.2.2.1
  have hcn := hS.1.1
  have c0 := (hS.1.2 s.toNat (by omega)).1
  rw [show ((s.toNat : Nat) : Int) = s by omega] at c0
  have e1 : z / 1000 = s := by omega
  have e2 : (z / 100) % 10 = t := by omega
  have hu : r_D_isToUndo C z = u := by
    unfold r_D_isToUndo
    by_cases h1 : z % 2 = 1
    · rw [if_pos h1]; omega
    · rw [if_neg h1]; omega
  refine ⟨e1, e2, by omega, by omega, hu, ?_, by omega, c0⟩
  unfold r_D_nameOf
  rw [hu, e1, e2]
  by_cases h1 : u = 0
  · rw [if_pos h1]; omega
  · rw [if_neg h1]; omega
/-- what the service does with a request it has not seen -/
theorem at_eq {C M : mm_N} (h : RL C M) {s t u : Int} (hs : 0 ≤ s ∧ s < lg_cn (C 17) (sC C)) (ht : 0 ≤ t ∧ t < C 2 (lg_k (C 17) s (mC C)).toNat) (hu : 0 ≤ u ∧ u < 2) (h37 : ¬ M 37 (nd C s t).toNat = 0) (h43 : M 43 ((8 * s + 2 * t) + u).toNat = 0) : ∃ a : Int, ∃ M1 : mm_N, (a = 1 ∨ a = 2) ∧ r_V_attempt C (nd C s t).toNat (4 * lg_k (C 17) s (mC C) + t) u = a ∧ RL (n_V_attempt C (nd C s t).toNat (4 * lg_k (C 17) s (mC C) + t) u) M1 ∧ M1 43 = M 43 ∧ r_M_request M s t u = (if a = 2 then 1 else 2) ∧ n_M_request M s t u = n_M_send (mm_f2 M1 43 ((8 * s + 2 * t) + u).toNat a) s t u a := by
  obtain ⟨b1, b2, b3, b4, b5, b6, b7⟩ := sb h hs.1 hs.2 ht
  have hA := h.1
  have hC := h.2.2.1
  obtain ⟨p, hp⟩ : ∃ p : Nat, 4 * lg_k (C 17) s (mC C) + t = (p : Int) := ⟨(4 * lg_k (C 17) s (mC C) + t).toNat, by omega⟩
  have hpn : (4 * lg_k (C 17) s (mC C) + t).toNat = p := by omega
  have hp16 : p < 16 := by omega
  obtain ⟨a1, a2, a3⟩ := hA.2.2 p hp16
  have hK := hA.1.2 p hp16
  have hst : M 36 (8 * nd C s t + C 4 p).toNat = C (8 + 3 * (nd C s t).toNat) (C 4 p).toNat := by
    have hh := hC (C 4 p).toNat (by omega)
    rcases b7 with b7 | b7
    · rw [b7, show (8 * 0 + C 4 p).toNat = (C 4 p).toNat by omega]
      exact hh.1
    · rw [b7, show (8 * 1 + C 4 p).toNat = 8 + (C 4 p).toNat by omega]
      exact hh.2
  have hR : RL C (rd M (kq M s) (dq M s) (uq M s) (rq M s) (zq M s)) := RL_rd h
  have h43r : rd M (kq M s) (dq M s) (uq M s) (rq M s) (zq M s) 43 = M 43 := rfl
  unfold r_M_request n_M_request r_V_attempt n_V_attempt r_K_isAllowed r_K_changeBy
  rw [b6, if_neg h37, if_neg h37, if_pos h43, if_pos h43]
  rw [b5] at hR h43r ⊢
  rw [hpn, a1, a2, a3, hst]
  generalize rd M (lg_k (C 17) s (mC C)) (dq M s) (uq M s) (rq M s) (zq M s) = R at *
  have hRs := fun v => RL_st hR b7 hK.2 v
  have hu2 : u = 0 ∨ u = 1 := by omega
  generalize hv : C (8 + 3 * (nd C s t).toNat) (C 4 p).toNat = v at *
  rcases hu2 with rfl | rfl
  · by_cases ho : C 3 p = 1
    · by_cases hx : 1000 < mm_wr (v + C 5 p)
      · simp only [ho, hx, if_true, if_false, Int.reduceEq]
        exact ⟨1, R, Or.inl rfl, rfl, hR, h43r, rfl, rfl⟩
      · simp only [ho, hx, if_true, if_false, Int.reduceEq]
        exact ⟨2, _, Or.inr rfl, rfl, hRs _, h43r, rfl, rfl⟩
    · by_cases hx : v < C 5 p
      · simp only [ho, hx, if_true, if_false, Int.reduceEq]
        exact ⟨1, R, Or.inl rfl, rfl, hR, h43r, rfl, rfl⟩
      · simp only [ho, hx, if_true, if_false, Int.reduceEq]
        exact ⟨2, _, Or.inr rfl, rfl, hRs _, h43r, rfl, rfl⟩
  · by_cases ho : C 3 p = 1
    · simp only [ho, if_true, if_false, Int.reduceEq, wr_an]
      exact ⟨2, _, Or.inr rfl, rfl, hRs _, h43r, rfl, rfl⟩
    · simp only [ho, if_true, if_false, Int.reduceEq, wr_sn]
      exact ⟨2, _, Or.inr rfl, rfl, hRs _, h43r, rfl, rfl⟩
theorem rq_all {C M : mm_N} (h : RL C M) {z s t u : Int} (hg : gm C z s t u 0) : r_D_takeRequest C z = r_M_request M s t u ∧ RL (n_D_takeRequest C z) (n_M_request M s t u) := by
  obtain ⟨d1, d2, d3, d4, d5, d6, d7, d8⟩ := gm_d h hg
  obtain ⟨m1, m2, m3, m4, m5⟩ := hg
  obtain ⟨b1, b2, b3, b4, b5, b6, b7⟩ := sb h m1.1 m1.2 m2
  have hD := h.2.2.2.1 (nd C s t).toNat (by omega)
  have hH := h.2.2.2.2.2.2.2.2.1 ((8 * s + 2 * t) + u).toNat (by omega)
  rw [show ((((8 * s + 2 * t) + u).toNat : Nat) : Int) / 8 = s by omega, show (((((8 * s + 2 * t) + u).toNat : Nat) : Int) % 8) / 2 = t by omega] at hH
  have h43 : C (9 + 3 * (nd C s t).toNat) ((8 * s + 2 * t) + u).toNat = M 43 ((8 * s + 2 * t) + u).toNat ∧ (M 43 ((8 * s + 2 * t) + u).toNat = 0 ∨ M 43 ((8 * s + 2 * t) + u).toNat = 1 ∨ M 43 ((8 * s + 2 * t) + u).toNat = 2) := by
    rcases hH with ⟨x1, x2, x3⟩ | ⟨x1, x2, x3, ⟨x4, x5, x6⟩ | ⟨x4, x5, x6⟩⟩
    · rcases b7 with b7 | b7
      · rw [b7]
        exact ⟨by show C 9 _ = _; omega, Or.inl x1⟩
      · rw [b7]
        exact ⟨by show C 12 _ = _; omega, Or.inl x1⟩
    · rw [x4]
      exact ⟨x5, Or.inr x1⟩
    · rw [x4]
      exact ⟨x6, Or.inr x1⟩
  unfold r_D_takeRequest n_D_takeRequest
  rw [d1, d2, d4, d5, d6, d8]
  by_cases h37 : M 37 (nd C s t).toNat = 0
  · have h13 : C 13 (nd C s t).toNat = 0 := by rw [← hD.1]; exact h37
    rw [if_pos h13, if_pos h13]
    unfold r_M_request n_M_request
    rw [b6, if_pos h37, if_pos h37]
    exact ⟨rfl, RL_rd h⟩
  · have h13 : ¬ C 13 (nd C s t).toNat = 0 := by rw [← hD.1]; exact h37
    rw [if_neg h13, if_neg h13, h43.1]
    by_cases h0 : M 43 ((8 * s + 2 * t) + u).toNat = 0
    · rw [if_pos h0, if_pos h0]
      obtain ⟨a, M1, q1, q2, q3, q4, q5, q6⟩ := at_eq h m1 m2 m3 h37 h0
      rw [q2, q5, q6]
      refine ⟨rfl, ?_⟩
      have row : ∀ x, x ≠ 8 + 3 * (nd C s t).toNat → n_V_attempt C (nd C s t).toNat (4 * lg_k (C 17) s (mC C) + t) u x = C x := fun x hx => at_row hx
      generalize n_V_attempt C (nd C s t).toNat (4 * lg_k (C 17) s (mC C) + t) u = C1 at *
      have r2 : C1 2 = C 2 := row 2 (by omega)
      have r3 : C1 3 = C 3 := row 3 (by omega)
      have r17 : C1 17 = C 17 := row 17 (by omega)
      have r16 : C1 16 = C 16 := row 16 (by omega)
      have hm : mC C1 = mC C := by unfold mC; rw [r16]
      have hsc : sC C1 = sC C := by unfold sC; rw [r16]
      have hn : nd C1 s t = nd C s t := by unfold nd; rw [hm, r3, r17]
      have hX := RL_an q3 (s := s) (t := t) (u := u) (a := a) (by rw [r17, hsc]; exact m1) (by rw [r17, hm, r2]; exact m2) m3 (by rw [q4]; exact h0) q1
      rw [hn] at hX
      rw [mm_f2_row (show 7 + 3 * (nd C s t).toNat ≠ 9 + 3 * (nd C s t).toNat by omega)]
      refine RL_put hX ?_
      have hg2 : gm C (z + 10 * a) s t u a := ⟨m1, m2, m3, by omega, by omega⟩
      refine gm_mv hg2 ?_ ?_ ?_ ?_ ?_
      · rw [mm_f2_row (by omega), mm_f2_row (by omega), r2]
      · rw [mm_f2_row (by omega), mm_f2_row (by omega), r3]
      · rw [mm_f2_row (by omega), mm_f2_row (by omega), r17]
      · unfold mC
        rw [mm_f2_row (by omega), mm_f2_row (by omega), r16]
      · unfold sC
        rw [mm_f2_row (by omega), mm_f2_row (by omega), r16]
        exact Nat.le_refl _
    · rw [if_neg h0, if_neg h0]
      unfold r_M_request n_M_request
      rw [b6, if_neg h37, if_neg h37, if_neg h0, if_neg h0]
      exact ⟨rfl, RL_put (RL_rd h) ⟨m1, m2, m3, by omega, by omega⟩⟩
theorem fr_trq {N : mm_N} {z : Int} {a : Nat} (h : 31 ≤ a) (hn : (z % 10) / 2 < 2) : n_D_takeRequest N z a = N a := by
  unfold n_D_takeRequest
  split
  · rfl
  · split
    · rw [fr_put h, mm_f2_row (by omega), mm_f2_row (by omega), at_row (by omega)]
    · exact fr_put h
theorem fr_mrq {N : mm_N} {s t u : Int} {a : Nat} (h : a < 31) : n_M_request N s t u a = N a := by
  unfold n_M_request
  repeat' split
  all_goals first
    | exact fr_rd h
    | rw [fr_send h, fr_rd h]
    | rw [fr_send h, mm_f2_row (by omega), fr_rd h]
    | rw [fr_send h, mm_f2_row (by omega), mm_f2_row (by omega), fr_rd h]
