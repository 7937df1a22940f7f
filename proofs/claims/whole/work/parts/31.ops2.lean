/-! pairs of calls: the questions, and what touches the line alone -/
theorem fr_put {N : mm_N} {z : Int} {a : Nat} (h : 31 ≤ a) : n_L_put N z a = N a := by
  unfold n_L_put
  split
  · rw [mm_f2_row (by omega), mm_f2_row (by omega)]
  · rfl
theorem fr_sif {N : mm_N} {s : Int} {a : Nat} (h : 31 ≤ a) : n_D_sendIfWaiting N s a = N a := by
  unfold n_D_sendIfWaiting
  split
  · rfl
  · exact fr_put h
theorem fr_tk {N : mm_N} {k : Int} {a : Nat} (h : 31 ≤ a) : tk N k a = N a := by
  unfold tk
  rw [mm_f0_ne (by omega), mm_f2_row (by omega)]
theorem fr_send {N : mm_N} {s t u w : Int} {a : Nat} (h : a < 31) : n_M_send N s t u w a = N a := by
  unfold n_M_send
  split
  · rfl
  · rw [mm_f2_row (by omega), mm_f2_row (by omega), mm_f2_row (by omega), mm_f2_row (by omega), mm_f2_row (by omega)]
theorem fr_rd {N : mm_N} {x1 x2 x3 x4 x5 : Int} {a : Nat} (h : a < 31) : rd N x1 x2 x3 x4 x5 a = N a := mm_f0_ne (by omega)
theorem fr_rmv {N : mm_N} {k i a : Nat} (h : a < 31) : rmv N k i a = N a := by
  unfold rmv
  rw [mm_f0_ne (by omega), mm_f0_ne (by omega), mm_f0_ne (by omega), mm_f0_ne (by omega), mm_f2_row (by omega)]
theorem fr_sn {N : mm_N} {s : Int} {a : Nat} (h : a < 31) : n_M_sendNext N s a = N a := by
  unfold n_M_sendNext
  split
  · exact fr_rd h
  · split
    · rw [fr_send h, fr_rd h]
    · rw [fr_send h, fr_rd h]
section OPS
variable {L : Nat} {xs : Nat → Int} {N : mm_N}
theorem line_b (h : RL N N) : (0 ≤ N 14 1 ∧ N 14 1 < 25) ∧ N 31 10 = N 14 1 := by
  obtain ⟨g1, g2, g3⟩ := h.2.2.2.2.2.2.2.1
  exact ⟨by omega, g1⟩
theorem line_c {M : mm_N} (h : RL N M) : 0 ≤ M 31 10 ∧ M 31 10 < 25 := by
  obtain ⟨g1, g2, g3⟩ := h.2.2.2.2.2.2.2.1
  omega
theorem log_b (h : RL N N) : 0 ≤ N 16 1 ∧ N 16 1 < 289 := by
  obtain ⟨e1, e2, e3, e4, e5, e6⟩ := h.2.2.2.2.1
  omega
theorem sg_c (h : RL N N) : 0 ≤ N 0 6 ∧ N 0 6 < 13 := by
  have h1 := h.2.2.2.2.2.2.1.1.1
  have h2 := lg_cn_12 h.2.2.2.2.2.1.1
  have h3 := lg_cn_0 (N 17) (mC N)
  omega
theorem ok_10 (h : RL N N) (d t : Int) : opOK L xs (fun N => RL N N) 66 103 [.inl d, .inl t] N := by
  refine op_mk (by decide) (by decide) (c_D_amount N d t) (c_M_amount N d t) ?_ (fun _ _ => rfl) h
  have hC := h.2.2.1
  unfold r_D_amount r_M_amount
  by_cases hd : 0 ≤ d ∧ d < 2
  · rw [if_neg (fun z => isB.mp z hd), if_neg (show ¬ d < 0 by omega), if_neg (show ¬ 1 < d by omega)]
    by_cases ht : 0 ≤ t ∧ t < 8
    · rw [if_neg (fun z => isB.mp z ht), if_neg (show ¬ t < 0 by omega), if_neg (show ¬ 7 < t by omega)]
      have hh := hC t.toNat (by omega)
      have hd2 : d = 0 ∨ d = 1 := by omega
      rcases hd2 with rfl | rfl
      · rw [show (8 * 0 + t).toNat = t.toNat by omega]
        exact hh.1.symm
      · rw [show (8 * 1 + t).toNat = 8 + t.toNat by omega]
        exact hh.2.symm
    · rw [if_pos (isB.mpr ht)]
      by_cases h0 : t < 0
      · rw [if_pos h0]
      · rw [if_neg h0, if_pos (by omega)]
  · rw [if_pos (isB.mpr hd)]
    by_cases h0 : d < 0
    · rw [if_pos h0]
    · rw [if_neg h0, if_pos (by omega)]
theorem ok_12 (h : RL N N) : opOK L xs (fun N => RL N N) 70 105 [] N := op_mk (by decide) (by decide) (c_D_messages N) (c_M_messages N) (line_b h).2.symm (fun _ _ => rfl) h
theorem ok_14 (h : RL N N) : opOK L xs (fun N => RL N N) 72 107 [] N := op_mk (by decide) (by decide) (c_D_logged N) (c_M_logged N) h.2.2.2.2.1.2.1.symm (fun _ _ => rfl) h
theorem ok_15 (h : RL N N) : opOK L xs (fun N => RL N N) 73 108 [] N := op_mk (by decide) (by decide) (c_D_durable N) (c_M_durable N) h.2.2.2.2.1.2.2.1.symm (fun _ _ => rfl) h
theorem ok_16 (h : RL N N) (p : Int) : opOK L xs (fun N => RL N N) 74 109 [.inl p] N := by
  obtain ⟨e1, e2, e3, e4, e5, e6⟩ := h.2.2.2.2.1
  refine op_mk (by decide) (by decide) (c_D_logByte N p (log_b h)) (c_M_logByte N p (hw_of h.2.2.2.2.1)) ?_ (fun _ _ => rfl) h
  unfold r_D_logByte r_M_logByte
  by_cases hp : 0 ≤ p ∧ p < N 16 1
  · rw [if_neg (fun z => isB.mp z hp), if_neg (by omega), if_pos (by omega)]
    exact (e1 _ (by omega)).symm
  · rw [if_pos (isB.mpr hp)]
    by_cases h0 : p < 0
    · rw [if_pos h0]
    · rw [if_neg h0, if_neg (by omega)]
theorem ok_18 (h : RL N N) (d : Int) : opOK L xs (fun N => RL N N) 78 111 [.inl d] N := by
  have hD := h.2.2.2.1
  refine op_mk (by decide) (by decide) (c_D_up N d) (c_M_up N d) ?_ (fun _ _ => rfl) h
  unfold r_D_up r_M_up
  by_cases hp : 0 ≤ d ∧ d < 3
  · rw [if_neg (fun z => isB.mp z hp), if_neg (show ¬ d < 0 by omega), if_neg (show ¬ 2 < d by omega), (hD d.toNat (by omega)).1]
  · rw [if_pos (isB.mpr hp)]
    by_cases h0 : d < 0
    · rw [if_pos h0]
    · rw [if_neg h0, if_pos (by omega)]
theorem ok_5 (h : RL N N) (k : Int) : opOK L xs (fun N => RL N N) 57 82 [.inl k] N := by
  obtain ⟨l1, l2⟩ := line_b h
  by_cases hk : 0 ≤ k ∧ k < N 14 1
  · have e1 : n_D_lose N k = tk N k := by unfold n_D_lose; rw [if_neg (fun z => isB.mp z hk)]
    have hc := c_D_lose (L := L) (xs := xs) N k l1
    rw [e1] at hc
    have h1 : RL N (tk N k) := RL_hi (fun a ha => fr_tk ha) h
    have l3 : tk N k 31 10 = N 14 1 := l2
    have e2 : n_M_lose (tk N k) k = rmv (tk N k) k.toNat (tk N k 31 10 - 1).toNat := by unfold n_M_lose; rw [if_neg (fun z => isM.mp z (by rw [l3]; exact hk))]
    have hm := c_M_lose (L := L) (xs := xs) (tk N k) k (line_c h1)
    rw [e2] at hm
    refine op_mk (by decide) (by decide) hc hm ?_ (fun a ha => fr_rmv ha) (RL_take h1 hk)
    unfold r_D_lose r_M_lose
    rw [if_neg (fun z => isB.mp z hk), if_neg (fun z => isM.mp z (by rw [l3]; exact hk))]
  · have e1 : n_D_lose N k = N := by unfold n_D_lose; rw [if_pos (isB.mpr hk)]
    have hc := c_D_lose (L := L) (xs := xs) N k l1
    rw [e1] at hc
    have e2 : n_M_lose N k = N := by unfold n_M_lose; rw [if_pos (isM.mpr (by rw [l2]; exact hk))]
    have hm := c_M_lose (L := L) (xs := xs) N k (line_c h)
    rw [e2] at hm
    refine op_mk (by decide) (by decide) hc hm ?_ (fun a ha => rfl) h
    unfold r_D_lose r_M_lose
    rw [if_pos (isB.mpr hk), if_pos (isM.mpr (by rw [l2]; exact hk))]
theorem ok_6 (h : RL N N) (k : Int) : opOK L xs (fun N => RL N N) 58 85 [.inl k] N := by
  obtain ⟨l1, l2⟩ := line_b h
  by_cases hk : (0 ≤ k ∧ k < N 14 1) ∧ ¬ N 14 1 = 24
  · have e1 : n_D_repeat N k = n_L_put N (N 15 k.toNat) := by unfold n_D_repeat; rw [if_neg (fun z => isB.mp z hk.1), if_neg hk.2]
    have hc := c_D_repeat (L := L) (xs := xs) N k l1
    rw [e1] at hc
    have hfr : ∀ a, 31 ≤ a → n_L_put N (N 15 k.toNat) a = N a := fun a ha => fr_put ha
    have h1 : RL N (n_L_put N (N 15 k.toNat)) := RL_hi hfr h
    have l3 : n_L_put N (N 15 k.toNat) 31 10 = N 14 1 := by rw [hfr 31 (by omega)]; exact l2
    have hm := c_M_repeat (L := L) (xs := xs) (n_L_put N (N 15 k.toNat)) k (line_c h1)
    have e2 : n_M_repeat (n_L_put N (N 15 k.toNat)) k = n_M_send (n_L_put N (N 15 k.toNat)) (n_L_put N (N 15 k.toNat) 39 k.toNat) (n_L_put N (N 15 k.toNat) 40 k.toNat) (n_L_put N (N 15 k.toNat) 41 k.toNat) (n_L_put N (N 15 k.toNat) 42 k.toNat) := by
      unfold n_M_repeat
      rw [if_neg (fun z => isM.mp z (by rw [l3]; exact hk.1)), if_neg (by rw [l3]; exact hk.2)]
    rw [e2] at hm
    refine op_mk (by decide) (by decide) hc hm ?_ (fun a ha => fr_send ha) (RL_put h1 ?_)
    · unfold r_D_repeat r_M_repeat
      rw [if_neg (fun z => isB.mp z hk.1), if_neg hk.2, if_neg (fun z => isM.mp z (by rw [l3]; exact hk.1)), if_neg (by rw [l3]; exact hk.2)]
    · have := h1.2.2.2.2.2.2.2.1.2.2 k.toNat (by omega)
      exact this
  · have e1 : n_D_repeat N k = N := by
      unfold n_D_repeat
      by_cases h1 : 0 ≤ k ∧ k < N 14 1
      · rw [if_neg (fun z => isB.mp z h1), if_pos (by omega)]
      · rw [if_pos (isB.mpr h1)]
    have hc := c_D_repeat (L := L) (xs := xs) N k l1
    rw [e1] at hc
    have e2 : n_M_repeat N k = N := by
      unfold n_M_repeat
      by_cases h1 : 0 ≤ k ∧ k < N 14 1
      · rw [if_neg (fun z => isM.mp z (by rw [l2]; exact h1)), if_pos (by omega)]
      · rw [if_pos (isM.mpr (by rw [l2]; exact h1))]
    have hm := c_M_repeat (L := L) (xs := xs) N k (line_c h)
    rw [e2] at hm
    refine op_mk (by decide) (by decide) hc hm ?_ (fun a ha => rfl) h
    unfold r_D_repeat r_M_repeat
    by_cases h1 : 0 ≤ k ∧ k < N 14 1
    · rw [if_neg (fun z => isB.mp z h1), if_pos (by omega), if_neg (fun z => isM.mp z (by rw [l2]; exact h1)), if_pos (by omega)]
    · rw [if_pos (isB.mpr h1), if_pos (isM.mpr (by rw [l2]; exact h1))]
theorem ok_7 (h : RL N N) (s : Int) : opOK L xs (fun N => RL N N) 60 100 [.inl s] N := by
  obtain ⟨l1, l2⟩ := line_b h
  have hK := h.1.1
  have hS := h.2.2.2.2.2.2.1.2
  have hcn := h.2.2.2.2.2.2.1.1.1
  have hD := (h.2.2.2.1 2 (by omega)).1
  have hc := c_D_resend (L := L) (xs := xs) N s hK hS l1 (sg_c h)
  have hq6 := fun (M : mm_N) (h1 : RL N M) => (qL h1.2.2.2.2.1 s).2.2.2.2.2
  by_cases hk : (¬ N 13 2 = 0) ∧ 0 ≤ s ∧ s < N 0 6
  · have e1 : n_D_resend N s = n_D_sendIfWaiting N s := by unfold n_D_resend; rw [if_neg hk.1, if_neg (fun z => isB.mp z hk.2)]
    rw [e1] at hc
    have h1 : RL N (n_D_sendIfWaiting N s) := RL_hi (fun a ha => fr_sif ha) h
    generalize hM : n_D_sendIfWaiting N s = M at hc h1
    have hm := c_M_resend (L := L) (xs := xs) M s (hw_of h1.2.2.2.2.1) (mV_of h1) (line_c h1)
    obtain ⟨w1, w2, w3, w4, w5, w6, w7⟩ := wq h1 hk.2
    have h37 : ¬ M 37 2 = 0 := by rw [(h1.2.2.2.1 2 (by omega)).1]; exact hk.1
    have hsg : r_M_sagas (rd M (kq M s) (dq M s) (uq M s) (rq M s) (zq M s)) = N 0 6 := by
      rw [hcn, ← hq6 M h1]
      rfl
    have e2 : n_M_resend M s = if r_D_isWaiting N s = 0 then rd M (kq M s) (dq M s) (uq M s) (rq M s) (zq M s) else n_M_sendNext (rd M (kq M s) (dq M s) (uq M s) (rq M s) (zq M s)) s := by
      unfold n_M_resend
      rw [if_neg h37, if_neg (by omega), hsg, if_pos hk.2.2, w1]
    rw [e2] at hm
    have hre : r_M_resend M s = r_D_resend N s := by
      unfold r_M_resend r_D_resend r_D_sendIfWaiting
      rw [if_neg h37, if_neg (by omega), hsg, if_pos hk.2.2, w1, if_neg hk.1, if_neg (fun z => isB.mp z hk.2)]
    by_cases hw : r_D_isWaiting N s = 0
    · rw [if_pos hw] at hm
      have e3 : M = N := by rw [← hM]; unfold n_D_sendIfWaiting; rw [if_pos hw]
      refine op_mk (by decide) (by decide) hc hm hre.symm (fun a ha => fr_rd ha) ?_
      rw [e3]
      exact RL_rd h
    · rw [if_neg hw] at hm
      refine op_mk (by decide) (by decide) hc hm hre.symm (fun a ha => by rw [fr_sn ha, fr_rd ha]) ?_
      have := RL_send (RL_rd (a := kq M s) (b := dq M s) (c := uq M s) (d := rq M s) (e := zq M s) h1) hk.2
      rw [hM] at this
      exact this
  · have e1 : n_D_resend N s = N := by
      unfold n_D_resend
      by_cases h1 : N 13 2 = 0
      · rw [if_pos h1]
      · rw [if_neg h1, if_pos (isB.mpr (by omega))]
    rw [e1] at hc
    have hm := c_M_resend (L := L) (xs := xs) N s (hw_of h.2.2.2.2.1) (mV_of h) (line_c h)
    have hsg : r_M_sagas (rd N (kq N s) (dq N s) (uq N s) (rq N s) (zq N s)) = N 0 6 := by
      rw [hcn, ← hq6 N h]
      rfl
    have e2 : n_M_resend N s = rd N (kq N s) (dq N s) (uq N s) (rq N s) (zq N s) := by
      unfold n_M_resend
      by_cases h1 : N 37 2 = 0
      · rw [if_pos h1]
      · rw [if_neg h1]
        by_cases h2 : s < 0
        · rw [if_pos h2]
        · rw [if_neg h2, hsg, if_neg (by rw [hD] at h1; omega)]
    rw [e2] at hm
    refine op_mk (by decide) (by decide) hc hm ?_ (fun a ha => fr_rd ha) (RL_rd h)
    unfold r_D_resend r_M_resend
    rw [hD]
    by_cases h1 : N 13 2 = 0
    · rw [if_pos h1, if_pos h1]
    · rw [if_neg h1, if_neg h1, if_pos (isB.mpr (by omega))]
      by_cases h2 : s < 0
      · rw [if_pos h2]
      · rw [if_neg h2, hsg, if_neg (by omega)]
theorem ok_11 (h : RL N N) (s : Int) : opOK L xs (fun N => RL N N) 68 104 [.inl s] N := by
  have hK := h.1.1
  have hS := h.2.2.2.2.2.2.1.2
  have hcn := h.2.2.2.2.2.2.1.1.1
  have hq6 := (qL h.2.2.2.2.1 s).2.2.2.2.2
  have hc := c_D_status (L := L) (xs := xs) N s hS hK (sg_c h)
  have hsg : r_M_sagas N = N 0 6 := by rw [hcn, hq6]
  have hm := c_M_status (L := L) (xs := xs) N s (hw_of h.2.2.2.2.1) (fun a b => by
    obtain ⟨w1, w2, w3, w4, w5, w6, w7⟩ := wq h (s := s) ⟨a, by omega⟩
    have := sg_c h
    rw [w5]
    exact (hS s.toNat (by omega)).1)
  by_cases hk : 0 ≤ s ∧ s < N 0 6
  · have e2 : n_M_status N s = rd N (kq N s) (dq N s) (uq N s) (rq N s) (zq N s) := by
      unfold n_M_status
      rw [if_neg (by omega), hsg, if_pos hk.2]
    rw [e2] at hm
    refine op_mk (by decide) (by decide) hc hm ?_ (fun a ha => fr_rd ha) (RL_rd h)
    obtain ⟨w1, w2, w3, w4, w5, w6, w7⟩ := wq h hk
    unfold r_D_status r_M_status r_S_standing
    rw [if_neg (fun z => isB.mp z hk), if_neg (show ¬ s < 0 by omega), hsg, if_pos hk.2, w1, w3, w4, w6, w7]
    by_cases h3 : N (19 + s.toNat) 3 = 0
    · rw [if_pos h3, if_pos h3]
      by_cases h4 : r_S_isOver N s.toNat = 0
      · rw [if_pos h4, if_pos h4]
        split <;> omega
      · rw [if_neg h4, if_neg h4]
        split <;> omega
    · rw [if_neg h3, if_neg h3]
      have ho : r_S_isOver N s.toNat = if N (19 + s.toNat) 2 = N (19 + s.toNat) 1 then 1 else 0 := by
        unfold r_S_isOver
        rw [if_neg h3]
      rw [ho]
      by_cases h4 : N (19 + s.toNat) 2 = N (19 + s.toNat) 1
      · rw [if_pos h4, if_pos h4, if_neg (show ¬ (1 : Int) = 0 by decide)]
        by_cases h5 : r_D_isWaiting N s = 0
        · rw [if_pos h5, if_pos h5]; omega
        · rw [if_neg h5, if_neg h5]; omega
      · rw [if_neg h4, if_neg h4, if_pos (show (0 : Int) = 0 from rfl)]
        by_cases h5 : r_D_isWaiting N s = 0
        · rw [if_pos h5, if_pos h5]; omega
        · rw [if_neg h5, if_neg h5]; omega
  · have e2 : n_M_status N s = N := by
      unfold n_M_status
      by_cases h2 : s < 0
      · rw [if_pos h2]
      · rw [if_neg h2, hsg, if_neg (by omega)]
    rw [e2] at hm
    refine op_mk (by decide) (by decide) hc hm ?_ (fun a ha => rfl) h
    unfold r_D_status r_M_status
    rw [if_pos (isB.mpr hk)]
    by_cases h2 : s < 0
    · rw [if_pos h2]
    · rw [if_neg h2, hsg, if_neg (by omega)]
end OPS
