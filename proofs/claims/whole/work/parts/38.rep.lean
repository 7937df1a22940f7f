/-! a reply delivered; deliver -/
theorem nd_bit (C : mm_N) (s t : Int) : nd C s t = 0 ∨ nd C s t = 1 := by
  unfold nd
  split
  · exact Or.inr rfl
  · exact Or.inl rfl
theorem ev_of {C M : mm_N} (h : RL C M) {s : Int} (hs : 0 ≤ s ∧ s < C 0 6) : ¬ C 0 7 = 0 := by
  intro z
  have hV := h.2.2.2.2.2.1
  have hcn := h.2.2.2.2.2.2.1.1.1
  have h0 := hV.2.2.1 z
  have hm : mC C = 0 := by unfold mC; rw [h0]; rfl
  have h1 := lg_cn_0 (C 17) (mC C)
  omega
/-- the record for a reply that is waited for is right -/
theorem rp_ok {C M : mm_N} (h : RL C M) {s x : Int} (hs : 0 ≤ s ∧ s < C 0 6) (hw : ¬ r_D_isWaiting C s = 0) (hup : ¬ C 13 2 = 0) (hx : (C (19 + s.toNat) 3 = 0 ∧ (x = 2 ∨ x = 3)) ∨ (¬ C (19 + s.toNat) 3 = 0 ∧ x = 4)) : lg_ok (C 2) (wc C x s (r_S_nextStep C s.toNat) 17) (mC C) := by
  obtain ⟨a1, a2, a3, a4⟩ := wt_all h hs hw
  obtain ⟨hA, hB, hC, hD, hE, hV, hS, hG, hH, hI⟩ := h
  have hw3 : C 16 1 = 3 * (mC C : Int) := by
    have := hV.2.1 hup
    have := hE.2.2.2
    unfold mC; omega
  generalize hy : r_S_nextStep C s.toNat = y at a2 a3 ⊢
  have like := wc_like (C := C) (t := x) (g := s) (v := y) (m := mC C) (by omega)
  obtain ⟨l1, l2⟩ := lg_like like
  have f0 : wc C x s y 17 (3 * mC C) = x := by rw [wc_17, if_neg (by omega), if_neg (by omega), if_pos (by omega)]
  have f1 : wc C x s y 17 (3 * mC C + 1) = s := by rw [wc_17, if_neg (by omega), if_pos (by omega)]
  have f2 : wc C x s y 17 (3 * mC C + 2) = y := by rw [wc_17, if_pos (by omega)]
  have hcn := hS.1.1
  obtain ⟨c0, c1, c2, c3, c4⟩ := hS.1.2 s.toNat (by omega)
  rw [show ((s.toNat : Nat) : Int) = s by omega] at c0 c1 c2 c3 c4
  obtain ⟨i1, i2, i3, i4, i5⟩ := lg_some hs.1 hV.1 (show s < lg_cn (C 17) (mC C) by omega)
  obtain ⟨j1, j2, j3, j4, j5, j6⟩ := l2 s
  unfold r_S_nextStep at hy
  unfold r_S_isOver at a4
  unfold lg_ok
  rw [f0, f1, f2, ← l1, ← j1, ← j2, ← j3, ← j4]
  rcases hx with ⟨x1, x2⟩ | ⟨x1, x2⟩
  · rw [if_pos x1] at hy a4
    refine Or.inr (Or.inl ⟨x2, hs.1, by omega, by omega, by omega, ?_⟩)
    have h4 : ¬ C (19 + s.toNat) 1 = C 2 (C (19 + s.toNat) 0).toNat := by
      intro z
      rw [if_pos z] at a4
      omega
    rw [c0, c1] at h4
    omega
  · rw [if_neg x1] at hy a4
    have h4 : ¬ C (19 + s.toNat) 2 = C (19 + s.toNat) 1 := by
      intro z
      rw [if_pos z] at a4
      omega
    exact Or.inr (Or.inr ⟨x2, hs.1, by omega, by omega, by omega, by omega⟩)
theorem room_w {C M : mm_N} (h : RL C M) {s : Int} (hs : 0 ≤ s ∧ s < C 0 6) (hup : ¬ C 13 2 = 0) (hw : ¬ r_D_isWaiting C s = 0) : C 16 1 + 3 ≤ 288 := by
  by_cases h3 : C (19 + s.toNat) 3 = 0
  · exact (RL_wr h hup (ev_of h hs) (rp_ok (x := 2) h hs hw hup (Or.inl ⟨h3, Or.inl rfl⟩))).1
  · exact (RL_wr h hup (ev_of h hs) (rp_ok (x := 4) h hs hw hup (Or.inr ⟨h3, rfl⟩))).1
set_option maxHeartbeats 4000000 in
theorem rp_all {C M : mm_N} (h : RL C M) {z s t u w : Int} (hg : gm C z s t u w) : r_D_takeReply C z = r_M_reply M s t u w ∧ RL (n_D_takeReply C z) (n_M_reply M s t u w) := by
  obtain ⟨d1, d2, d3, d4, d5, d6, d7, d8⟩ := gm_d h hg
  obtain ⟨m1, m2, m3, m4, m5⟩ := hg
  obtain ⟨b1, b2, b3, b4, b5, b6, b7⟩ := sb h m1.1 m1.2 m2
  have hD := (h.2.2.2.1 2 (by omega)).1
  have hs : 0 ≤ s ∧ s < C 0 6 := ⟨m1.1, b2⟩
  obtain ⟨w1, w2, w3, w4, w5, w6, w7⟩ := wq h hs
  have hrc : r_D_recordFor C z = if u = 0 then (if w = 2 then 2 else 3) else 4 := by
    unfold r_D_recordFor
    rw [d5, d3]
  unfold r_D_takeReply n_D_takeReply r_M_reply n_M_reply
  rw [d1, d2, d3, hrc, w1, w2, w4, hD]
  by_cases hup : C 13 2 = 0
  · rw [if_pos hup, if_pos hup, if_pos hup, if_pos hup]
    exact ⟨rfl, h⟩
  · rw [if_neg hup, if_neg hup, if_neg hup, if_neg hup]
    by_cases hw : r_D_isWaiting C s = 0
    · rw [if_pos hw, if_pos hw, if_pos hw, if_pos hw]
      exact ⟨rfl, RL_rd h⟩
    · rw [if_neg hw, if_neg hw, if_neg hw, if_neg hw]
      have hR : RL C (rd M (kq M s) (dq M s) (uq M s) (rq M s) (zq M s)) := RL_rd h
      have hn0 := nd_at s (r_S_nextStep C s.toNat) d8
      have n1 := nd_bit C s (r_S_nextStep C s.toNat)
      by_cases ht : t = r_S_nextStep C s.toNat
      · rw [if_pos ht, if_pos ht]
        by_cases h3 : C (19 + s.toNat) 3 = 0
        · rw [if_pos h3, if_pos h3]
          by_cases hu : u = 0
          · have e : z - 10 * w = r_D_nextRequest C s := by
              unfold r_D_nextRequest
              rw [if_pos h3, hn0, ← ht]
              omega
            rw [if_pos e, if_pos e, if_pos hu, if_pos hu, if_pos hu, if_neg (show ¬ u = 1 by omega)]
            refine ⟨rfl, ?_⟩
            by_cases h2 : w = 2
            · rw [if_pos h2, if_pos h2, ht]
              exact (RL_wr hR hup (ev_of h hs) (rp_ok hR hs hw hup (Or.inl ⟨h3, Or.inl rfl⟩))).2
            · rw [if_neg h2, if_neg h2, ht]
              exact (RL_wr hR hup (ev_of h hs) (rp_ok hR hs hw hup (Or.inl ⟨h3, Or.inr rfl⟩))).2
          · have e : ¬ z - 10 * w = r_D_nextRequest C s := by
              unfold r_D_nextRequest
              rw [if_pos h3, hn0, ← ht]
              omega
            rw [if_neg e, if_neg e, if_neg hu, if_neg hu]
            exact ⟨rfl, hR⟩
        · rw [if_neg h3, if_neg h3]
          by_cases hu : u = 1
          · have e : z - 10 * w = r_D_nextRequest C s := by
              unfold r_D_nextRequest
              rw [if_neg h3, hn0, ← ht]
              omega
            rw [if_pos e, if_pos e, if_pos hu, if_pos hu, if_neg (show ¬ u = 0 by omega), ht]
            exact ⟨rfl, (RL_wr hR hup (ev_of h hs) (rp_ok hR hs hw hup (Or.inr ⟨h3, rfl⟩))).2⟩
          · have e : ¬ z - 10 * w = r_D_nextRequest C s := by
              unfold r_D_nextRequest
              rw [if_neg h3, hn0, ← ht]
              omega
            rw [if_neg e, if_neg e, if_neg hu, if_neg hu]
            exact ⟨rfl, hR⟩
      · have e : ¬ z - 10 * w = r_D_nextRequest C s := by
          unfold r_D_nextRequest
          rw [hn0]
          by_cases h3 : C (19 + s.toNat) 3 = 0
          · rw [if_pos h3]; omega
          · rw [if_neg h3]; omega
        rw [if_neg e, if_neg e, if_neg ht, if_neg ht]
        exact ⟨rfl, hR⟩
theorem fr_trp {N : mm_N} {z : Int} {a : Nat} (h : 31 ≤ a) (h0 : 0 ≤ N 16 1) (hm : ¬ N 13 2 = 0 → N 16 1 % 3 = 0) (hz : z / 1000 < 12) : n_D_takeReply N z a = N a := by
  unfold n_D_takeReply
  by_cases hup : N 13 2 = 0
  · rw [if_pos hup]
  · rw [if_neg hup]
    split
    · rfl
    · split
      · rw [fr_rr h (by rw [wr_at h0 (hm hup)]; omega), mm_f2_row (by omega), mm_f2_row (by omega), mm_f2_row (by omega), mm_f2_row (by omega)]
      · rfl
theorem fr_mrp {N : mm_N} {s t u w : Int} {a : Nat} (h : a < 31) : n_M_reply N s t u w a = N a := by
  unfold n_M_reply
  repeat' split
  all_goals first
    | rfl
    | exact fr_rd h
    | rw [mm_f2_row (by omega), mm_f2_row (by omega), mm_f2_row (by omega), mm_f2_row (by omega), fr_rd h]
theorem tQ_of {C M : mm_N} (h : RL C M) {z s t u w : Int} (hg : gm C z s t u w) : tQ C z ∧ tP C z := by
  obtain ⟨d1, d2, d3, d4, d5, d6, d7, d8⟩ := gm_d h hg
  obtain ⟨m1, m2, m3, m4, m5⟩ := hg
  obtain ⟨b1, b2, b3, b4, b5, b6, b7⟩ := sb h m1.1 m1.2 m2
  have h' := h
  obtain ⟨hA, hB, hC, hD, hE, hV, hS, hG, hH, hI⟩ := h
  have z9 := cz_b (C 9) 96
  have z12 := cz_b (C 12) 96
  have h12 := lg_cn_12 hV.1
  have hcn := hS.1.1
  have e5 := hE.2.2.2
  have g5 := hG.2.1
  refine ⟨⟨d7, by rw [d4]; omega, by omega, by omega, hS.2, hA.1, fun n hn => ?_, fun n hn j hj => ?_, by omega, by omega⟩, ⟨d7, by omega, hS.2, hA.1, by omega, by omega, hV.2.1, fun q1 q2 => ?_⟩⟩
  · have hn2 : n = 0 ∨ n = 1 := by omega
    rcases hn2 with rfl | rfl
    · show 0 ≤ C 7 2 ∧ C 7 2 < 1000
      rw [hI.1]; omega
    · show 0 ≤ C 10 2 ∧ C 10 2 < 1000
      rw [hI.2]; omega
  · have hj2 := hH j hj
    have hn2 : n = 0 ∨ n = 1 := by omega
    rcases hn2 with rfl | rfl
    · show 0 ≤ C 9 j ∧ C 9 j ≤ 2
      rcases hj2 with x | ⟨x1, x2, x3, x4 | x4⟩ <;> omega
    · show 0 ≤ C 12 j ∧ C 12 j ≤ 2
      rcases hj2 with x | ⟨x1, x2, x3, x4 | x4⟩ <;> omega
  · rw [d1] at q2
    have := room_w h' ⟨m1.1, b2⟩ q1 q2
    omega
theorem mQ_of {C M : mm_N} (h : RL C M) {z s t u w : Int} (hg : gm C z s t u w) : mQ M s t u ∧ mP M s := by
  obtain ⟨m1, m2, m3, m4, m5⟩ := hg
  obtain ⟨b1, b2, b3, b4, b5, b6, b7⟩ := sb h m1.1 m1.2 m2
  have hE := h.2.2.2.2.1
  have hA := h.1
  have w1 := (wq h ⟨m1.1, b2⟩).1
  refine ⟨⟨hw_of hE, by rw [b5]; exact b4, by omega, by omega, m3, fun p hp => ?_, line_c h⟩, ⟨hw_of hE, by rw [b5]; exact b4.2, fun q1 q2 => ?_⟩⟩
  · rw [(hA.2.2 p hp).2.1]
    exact (hA.1.2 p hp).2
  · rw [w1] at q2
    rw [(h.2.2.2.1 2 (by omega)).1] at q1
    rw [hE.2.1]
    exact room_w h ⟨m1.1, b2⟩ q1 q2
section OPS7
variable {L : Nat} {xs : Nat → Int} {N : mm_N}
theorem ok_4 (h : RL N N) (k : Int) : opOK L xs (fun N => RL N N) 37 87 [.inl k] N := by
  obtain ⟨l1, l2⟩ := line_b h
  by_cases hk : 0 ≤ k ∧ k < N 14 1
  · have hT := RL_take h hk
    have hgm := h.2.2.2.2.2.2.2.1.2.2 k.toNat (by omega)
    have hgT : gm (tk N k) (N 15 k.toNat) (N 39 k.toNat) (N 40 k.toNat) (N 41 k.toNat) (N 42 k.toNat) := gm_mv hgm rfl rfl rfl rfl (Nat.le_refl _)
    have hq := tQ_of hT hgT
    obtain ⟨d1, d2, d3, d4, d5, d6, d7, d8⟩ := gm_d hT hgT
    have hc := c_D_deliver (L := L) (xs := xs) N k l1 (fun _ => ⟨d7, hq.1, hq.2⟩)
    by_cases hw : N 42 k.toNat = 0
    · have hw0 : (N 15 k.toNat / 10) % 10 = 0 := by omega
      have e1 : n_D_deliver N k = n_D_takeRequest (tk N k) (N 15 k.toNat) := by
        unfold n_D_deliver
        rw [if_neg (fun z => isB.mp z hk), if_pos hw0]
      have e2 : r_D_deliver N k = r_D_takeRequest (tk N k) (N 15 k.toNat) := by
        unfold r_D_deliver
        rw [if_neg (fun z => isB.mp z hk), if_pos hw0]
      have hhi : ∀ a, 31 ≤ a → n_D_takeRequest (tk N k) (N 15 k.toNat) a = N a := fun a ha => by
        rw [fr_trq ha hq.1.2.1, fr_tk ha]
      rw [e1, e2] at hc
      have h1 : RL N _ := RL_hi hhi h
      generalize hM : n_D_takeRequest (tk N k) (N 15 k.toNat) = M at hc hhi h1
      have hT1 := RL_take h1 hk
      have hg1 := h1.2.2.2.2.2.2.2.1.2.2 k.toNat (by omega)
      have hgT1 : gm (tk N k) (N 15 k.toNat) (M 39 k.toNat) (M 40 k.toNat) (M 41 k.toNat) (M 42 k.toNat) := gm_mv hg1 rfl rfl rfl rfl (Nat.le_refl _)
      have l3 : M 31 10 = N 14 1 := by rw [hhi 31 (by omega)]; exact l2
      have hw1 : M 42 k.toNat = 0 := by rw [hhi 42 (by omega)]; exact hw
      have hm := c_M_deliver (L := L) (xs := xs) M k (line_c h1) (fun _ => mQ_of hT1 hgT1)
      have e3 : n_M_deliver M k = n_M_request (rmv M k.toNat (M 31 10 - 1).toNat) (M 39 k.toNat) (M 40 k.toNat) (M 41 k.toNat) := by
        unfold n_M_deliver
        rw [if_neg (fun z => isM.mp z (by rw [l3]; exact hk)), if_pos hw1]
      have e4 : r_M_deliver M k = r_M_request (rmv M k.toNat (M 31 10 - 1).toNat) (M 39 k.toNat) (M 40 k.toNat) (M 41 k.toNat) := by
        unfold r_M_deliver
        rw [if_neg (fun z => isM.mp z (by rw [l3]; exact hk)), if_pos hw1]
      rw [hw1] at hgT1
      obtain ⟨g1, g2⟩ := rq_all hT1 hgT1
      rw [hM] at g2
      rw [e3, e4] at hm
      exact op_mk (by decide) (by decide) hc hm g1 (fun a ha => by rw [fr_mrq ha, fr_rmv ha]) g2
    · have hw0 : ¬ (N 15 k.toNat / 10) % 10 = 0 := by omega
      have e1 : n_D_deliver N k = n_D_takeReply (tk N k) (N 15 k.toNat) := by
        unfold n_D_deliver
        rw [if_neg (fun z => isB.mp z hk), if_neg hw0]
      have e2 : r_D_deliver N k = r_D_takeReply (tk N k) (N 15 k.toNat) := by
        unfold r_D_deliver
        rw [if_neg (fun z => isB.mp z hk), if_neg hw0]
      have hhi : ∀ a, 31 ≤ a → n_D_takeReply (tk N k) (N 15 k.toNat) a = N a := fun a ha => by
        rw [fr_trp ha hq.2.2.2.2.2.2.1.1 hq.2.2.2.2.2.2.2.1 hq.2.2.1, fr_tk ha]
      rw [e1, e2] at hc
      have h1 : RL N _ := RL_hi hhi h
      generalize hM : n_D_takeReply (tk N k) (N 15 k.toNat) = M at hc hhi h1
      have hT1 := RL_take h1 hk
      have hg1 := h1.2.2.2.2.2.2.2.1.2.2 k.toNat (by omega)
      have hgT1 : gm (tk N k) (N 15 k.toNat) (M 39 k.toNat) (M 40 k.toNat) (M 41 k.toNat) (M 42 k.toNat) := gm_mv hg1 rfl rfl rfl rfl (Nat.le_refl _)
      have l3 : M 31 10 = N 14 1 := by rw [hhi 31 (by omega)]; exact l2
      have hw1 : ¬ M 42 k.toNat = 0 := by rw [hhi 42 (by omega)]; exact hw
      have hm := c_M_deliver (L := L) (xs := xs) M k (line_c h1) (fun _ => mQ_of hT1 hgT1)
      have e3 : n_M_deliver M k = n_M_reply (rmv M k.toNat (M 31 10 - 1).toNat) (M 39 k.toNat) (M 40 k.toNat) (M 41 k.toNat) (M 42 k.toNat) := by
        unfold n_M_deliver
        rw [if_neg (fun z => isM.mp z (by rw [l3]; exact hk)), if_neg hw1]
      have e4 : r_M_deliver M k = r_M_reply (rmv M k.toNat (M 31 10 - 1).toNat) (M 39 k.toNat) (M 40 k.toNat) (M 41 k.toNat) (M 42 k.toNat) := by
        unfold r_M_deliver
        rw [if_neg (fun z => isM.mp z (by rw [l3]; exact hk)), if_neg hw1]
      obtain ⟨g1, g2⟩ := rp_all hT1 hgT1
      rw [hM] at g2
      rw [e3, e4] at hm
      exact op_mk (by decide) (by decide) hc hm g1 (fun a ha => by rw [fr_mrp ha, fr_rmv ha]) g2
  · have hc := c_D_deliver (L := L) (xs := xs) N k l1 (fun z => absurd z hk)
    have hm := c_M_deliver (L := L) (xs := xs) N k (line_c h) (fun z => absurd (by rw [l2] at z; exact z) hk)
    have e1 : n_D_deliver N k = N ∧ r_D_deliver N k = 0 := by
      unfold n_D_deliver r_D_deliver
      rw [if_pos (isB.mpr hk), if_pos (isB.mpr hk)]
      exact ⟨rfl, rfl⟩
    have e2 : n_M_deliver N k = N ∧ r_M_deliver N k = 0 := by
      unfold n_M_deliver r_M_deliver
      rw [if_pos (isM.mpr (by rw [l2]; exact hk)), if_pos (isM.mpr (by rw [l2]; exact hk))]
      exact ⟨rfl, rfl⟩
    rw [e1.1] at hc
    rw [e2.1] at hm
    exact op_mk (by decide) (by decide) hc hm (by rw [e1.2, e2.2]) (fun a ha => rfl) h
end OPS7
