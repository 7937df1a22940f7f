/-! flush and restart -/
theorem rec_s {c f : Nat → Int} {p : Nat} : ∀ {m : Nat}, lg_va c f m → p < m → 0 ≤ f (3 * p + 1) ∧ f (3 * p + 1) < lg_cn f m
  | 0, _, h => by omega
  | m + 1, hv, h => by
    have hm : lg_cn f m ≤ lg_cn f (m + 1) := lg_cn_mono f (Nat.le_succ m)
    by_cases hp : p < m
    · have := rec_s hv.1 hp
      omega
    · have hpm : p = m := by omega
      subst hpm
      have h0 := lg_cn_0 f p
      have hcn : lg_cn f (p + 1) = if f (3 * p) = 1 then lg_cn f p + 1 else lg_cn f p := rfl
      rcases hv.2 with g | g | g
      · rw [if_pos g.1] at hcn; omega
      · omega
      · omega
theorem gm_mv {C C2 : mm_N} {z s t u w : Int} (h : gm C z s t u w) (h2 : C2 2 = C 2) (h3 : C2 3 = C 3) (h17 : C2 17 = C 17) (hm : mC C2 = mC C) (hs : sC C ≤ sC C2) : gm C2 z s t u w := by
  obtain ⟨m1, m2, m3, m4, m5⟩ := h
  have hn : nd C2 s t = nd C s t := by unfold nd; rw [hm, h3, h17]
  have := lg_cn_mono (C 17) hs
  exact ⟨by rw [h17]; omega, by rw [h17, h2, hm]; exact m2, m3, m4, by rw [hn]; exact m5⟩
theorem ga_mv {C C2 : mm_N} {a x y s t : Int} (h : ga C a x y s t) (h2 : C2 2 = C 2) (h3 : C2 3 = C 3) (h17 : C2 17 = C 17) (hm : mC C2 = mC C) (hs : sC C ≤ sC C2) : ga C2 a x y s t := by
  rcases h with h | ⟨a1, a2, a3, a4⟩
  · exact Or.inl h
  · have hn : nd C2 s t = nd C s t := by unfold nd; rw [hm, h3, h17]
    have := lg_cn_mono (C 17) hs
    exact Or.inr ⟨a1, by rw [h17]; omega, by rw [h17, h2, hm]; exact a3, by rw [hn]; exact a4⟩
theorem RL_sec {C M : mm_N} (h : RL C M) (hlt : C 16 2 < C 16 1) : RL (mm_f2 C 16 2 (C 16 2 + 1)) (mm_f2 M 31 9 (M 31 9 + 1)) := by
  obtain ⟨hA, hB, hC, hD, hE, hV, hS, hG, hH, hI⟩ := h
  obtain ⟨e1, e2, e3, e4, e5, e6⟩ := hE
  have hm : mC (mm_f2 C 16 2 (C 16 2 + 1)) = mC C := rfl
  have hs : sC C ≤ sC (mm_f2 C 16 2 (C 16 2 + 1)) := by
    show (C 16 2 / 3).toNat ≤ ((C 16 2 + 1) / 3).toNat
    omega
  refine ⟨hA, hB, hC, hD, ⟨e1, e2, ?_, ?_⟩, ⟨hV.1, hV.2.1, hV.2.2.1, fun z => ?_⟩, gS_mv hV hS rfl rfl rfl rfl (fun i hi => mm_f2_row (by omega)), ⟨hG.1, hG.2.1, fun j hj => gm_mv (hG.2.2 j hj) rfl rfl rfl hm hs⟩, fun j hj => ga_mv (hH j hj) rfl rfl rfl hm hs, hI⟩
  · show M 31 9 + 1 = C 16 2 + 1
    rw [e3]
  · show 0 ≤ C 16 2 + 1 ∧ C 16 2 + 1 ≤ C 16 1 ∧ C 16 1 ≤ 288
    omega
  · have := hV.2.2.2 z
    omega
theorem RL_fl {C M : mm_N} (h : RL C M) (hlt : C 16 2 < C 16 1) (x : Int) : RL (dfl x C) (mfl x M) := by
  have h1 := RL_sec h hlt
  obtain ⟨e1, e2, e3, e4, e5, e6⟩ := h.2.2.2.2.1
  unfold dfl mfl
  rw [e3] at h1 ⊢
  by_cases h3 : (C 16 2 + 1) % 3 = 0
  · rw [if_pos h3, if_pos h3]
    have hidx : ((3 * ((C 16 2 + 1) / 3 - 1)) + 1).toNat = (C 16 2 + 1 - 2).toNat := by omega
    have hb := e1 (C 16 2 + 1 - 2).toNat (by omega)
    rw [hidx, hb]
    have hr := rec_s (p := ((C 16 2 + 1) / 3 - 1).toNat) h.2.2.2.2.2.1.1 (by unfold mC; omega)
    have hi2 : 3 * ((C 16 2 + 1) / 3 - 1).toNat + 1 = (C 16 2 + 1 - 2).toNat := by omega
    rw [hi2, ← h.2.2.2.2.2.2.1.1.1] at hr
    exact RL_send h1 hr
  · rw [if_neg h3, if_neg h3]
    exact h1
theorem sif_row {N : mm_N} {s : Int} {a : Nat} (h1 : a ≠ 14) (h2 : a ≠ 15) : n_D_sendIfWaiting N s a = N a := by
  unfold n_D_sendIfWaiting n_L_put
  split
  · rfl
  · split
    · rw [mm_f2_row h1, mm_f2_row h2]
    · rfl
theorem fl_16 {x : Int} {N : mm_N} : dfl x N 16 2 = N 16 2 + 1 ∧ dfl x N 16 1 = N 16 1 := by
  unfold dfl
  split
  · rw [sif_row (by omega) (by omega)]
    exact ⟨rfl, rfl⟩
  · exact ⟨rfl, rfl⟩
theorem fl_hi {x : Int} {N : mm_N} {a : Nat} (h : 31 ≤ a) : dfl x N a = N a := by
  unfold dfl
  split
  · rw [fr_sif h, mm_f2_row (by omega)]
  · rw [mm_f2_row (by omega)]
theorem fl_lo {x : Int} {N : mm_N} {a : Nat} (h : a < 31) : mfl x N a = N a := by
  unfold mfl
  split
  · rw [fr_sn h, mm_f2_row (by omega)]
  · rw [mm_f2_row (by omega)]
theorem it_row {g : Int → mm_N → mm_N} {N : mm_N} {a : Nat} (h : ∀ x M, g x M a = M a) : ∀ i, itn g i N a = N a
  | 0 => rfl
  | i + 1 => by
    show g i (itn g i N) a = N a
    rw [h, it_row h i]
theorem fl_all {C M : mm_N} (h : RL C M) {c : Nat} (hc : C 16 2 + c ≤ C 16 1) : ∀ i, i ≤ c → RL (itn dfl i C) (itn mfl i M) ∧ itn dfl i C 16 2 = C 16 2 + i ∧ itn dfl i C 16 1 = C 16 1
  | 0, _ => ⟨h, by show C 16 2 = C 16 2 + 0; omega, rfl⟩
  | i + 1, hi => by
    obtain ⟨h1, h2, h3⟩ := fl_all h hc i (by omega)
    have hx := fl_16 (x := (i : Int)) (N := itn dfl i C)
    refine ⟨RL_fl h1 (by omega) i, ?_, ?_⟩
    · show dfl i (itn dfl i C) 16 2 = _
      rw [hx.1, h2]
      omega
    · show dfl i (itn dfl i C) 16 1 = _
      rw [hx.2, h3]
section OPS5
variable {L : Nat} {xs : Nat → Int} {N : mm_N}
theorem ok_3 (h : RL N N) (n : Int) : opOK L xs (fun N => RL N N) 22 98 [.inl n] N := by
  obtain ⟨e1, e2, e3, e4, e5, e6⟩ := h.2.2.2.2.1
  obtain ⟨c, hc⟩ : ∃ c : Nat, (c : Int) = max 0 (min n (N 16 1 - N 16 2)) := ⟨(max 0 (min n (N 16 1 - N 16 2))).toNat, by omega⟩
  have hcl : N 16 2 + c ≤ N 16 1 := by omega
  have hA := fl_all h hcl
  have hcc := c_D_flush (L := L) (xs := xs) N n ⟨e4, e5, by omega⟩ c hc (fun i hi => by
    obtain ⟨h1, h2, h3⟩ := hA i hi
    refine ⟨h2, h3, h1.2.2.2.2.2.2.1.2, h1.1.1, ?_, fun p hp hpl => ?_⟩
    · have := h1.2.2.2.2.2.2.2.1.2.1
      omega
    · have hr := rec_s (p := p.toNat) h1.2.2.2.2.2.1.1 (by unfold mC; rw [h3]; omega)
      have h12 := lg_cn_12 h1.2.2.2.2.2.1.1
      rw [show ((3 * p) + 1).toNat = 3 * p.toNat + 1 by omega]
      omega)
  have hhi : ∀ a, 31 ≤ a → itn dfl c N a = N a := fun a ha => it_row (fun x M => fl_hi ha) c
  have h1 : RL N (itn dfl c N) := RL_hi hhi h
  generalize hM : itn dfl c N = M at hcc hhi h1
  obtain ⟨d1, d2, d3, d4, d5, d6⟩ := h1.2.2.2.2.1
  have hB := fl_all h1 hcl
  have hm := c_M_flush (L := L) (xs := xs) M n ⟨by omega, by omega, by omega⟩ c (by rw [d2, d3]; exact hc) (fun i hi => by
    obtain ⟨g1, g2, g3⟩ := hB i hi
    obtain ⟨f1, f2, f3, f4, f5, f6⟩ := g1.2.2.2.2.1
    refine ⟨by rw [f3, g2, d3], by rw [f2, g3, d2], mV_of g1, ?_⟩
    exact line_c g1)
  refine op_mk (by decide) (by decide) hcc hm rfl (fun a ha => it_row (fun x M => fl_lo ha) c) ?_
  have := (hB c (Nat.le_refl _)).1
  rw [hM] at this
  exact this
theorem RL_up {C M : mm_N} {d v : Int} (h : RL C M) (hd : 0 ≤ d ∧ d < 2) (hv : v = 0 ∨ v = 1) : RL (mm_f2 C 13 d.toNat v) (mm_f2 M 37 d.toNat v) := by
  obtain ⟨hA, hB, hC, hD, hE, hV, hS, hG, hH, hI⟩ := h
  have h132 : mm_f2 C 13 d.toNat v 13 2 = C 13 2 := by rw [f2_j, if_neg (by omega)]
  refine ⟨hA, hB, hC, fun n hn => ?_, hE, ⟨hV.1, ?_, hV.2.2.1, ?_⟩, gS_mv hV hS rfl rfl rfl rfl (fun i hi => mm_f2_row (by omega)), hG, hH, hI⟩
  · rw [f2_j, f2_j]
    by_cases hx : n = d.toNat
    · rw [if_pos hx, if_pos hx]; exact ⟨rfl, hv⟩
    · rw [if_neg hx, if_neg hx]; exact hD n hn
  · rw [h132]; exact hV.2.1
  · rw [h132]; exact hV.2.2.2
theorem RL_rs {C M : mm_N} (h : RL C M) (hd : C 13 2 = 0) : RL (drs C 2) (mrs M 2) := by
  obtain ⟨hA, hB, hC, hD, hE, hV, hS, hG, hH, hI⟩ := h
  obtain ⟨e1, e2, e3, e4, e5, e6⟩ := hE
  have hws := hV.2.2.2 hd
  have x1 : drs C 2 16 1 = 3 * (C 16 1 / 3) := rfl
  have x2 : drs C 2 16 2 = 3 * (C 16 1 / 3) := by
    show (if 3 * (C 16 1 / 3) < C 16 2 then 3 * (C 16 1 / 3) else C 16 2) = _
    split <;> omega
  have hm : mC (drs C 2) = mC C := by unfold mC; rw [x1]; omega
  have hs : sC (drs C 2) = mC C := by unfold sC mC; rw [x2]; omega
  have hs2 : sC C ≤ sC (drs C 2) := by rw [hs]; unfold sC mC; omega
  refine ⟨hA, hB, hC, fun n hn => ?_, ⟨e1, ?_, ?_, ?_⟩, ⟨?_, fun _ => ?_, fun z => ?_, fun z => ?_⟩, ⟨?_, cS_mv hS.2 rfl (fun i hi => ?_)⟩, ⟨hG.1, hG.2.1, fun j hj => gm_mv (hG.2.2 j hj) rfl rfl rfl hm hs2⟩, fun j hj => ga_mv (hH j hj) rfl rfl rfl hm hs2, hI⟩
  · show mm_f2 M 37 (2 : Int).toNat 1 37 n = mm_f2 C 13 (2 : Int).toNat 1 13 n ∧ (mm_f2 C 13 (2 : Int).toNat 1 13 n = 0 ∨ mm_f2 C 13 (2 : Int).toNat 1 13 n = 1)
    rw [f2_j, f2_j]
    by_cases hx : n = (2 : Int).toNat
    · rw [if_pos hx, if_pos hx]; exact ⟨rfl, Or.inr rfl⟩
    · rw [if_neg hx, if_neg hx]; exact hD n hn
  · rw [x1]
    show M 31 8 - M 31 8 % 3 = _
    omega
  · rw [x2]
    show M 31 8 - M 31 8 % 3 = _
    omega
  · rw [x1, x2]; omega
  · rw [hm]; exact hV.1
  · rw [x1]; omega
  · rw [x1]
    have : C 0 7 = 0 := z
    have := hV.2.2.1 this
    omega
  · exact absurd z (by show ¬ (1 : Int) = 0; decide)
  · rw [hm]
    exact cC_mv hS.1 (lg_cn_12 hV.1) rfl (fun i hi => by unfold drs; rw [mm_f2_row (by omega), mm_f2_row (by omega), mm_f2_row (by omega)])
  · unfold drs; rw [mm_f2_row (by omega), mm_f2_row (by omega), mm_f2_row (by omega)]
theorem sd_all {C M : mm_N} (h : RL C M) : ∀ i : Nat, (i : Int) ≤ C 0 6 → RL (itn dsd i C) (itn msd i M) ∧ itn dsd i C 0 = C 0
  | 0, _ => ⟨h, rfl⟩
  | i + 1, hi => by
    obtain ⟨h1, h2⟩ := sd_all h i (by omega)
    refine ⟨RL_send h1 (s := (i : Int)) ⟨by omega, by rw [h2]; omega⟩, ?_⟩
    show n_D_sendIfWaiting (itn dsd i C) i 0 = C 0
    rw [sif_row (by omega) (by omega), h2]
theorem drs_hi {C : mm_N} {d : Int} {a : Nat} (h : 31 ≤ a) : drs C d a = C a := by
  unfold drs
  rw [mm_f2_row (by omega), mm_f2_row (by omega), mm_f2_row (by omega)]
theorem mrs_lo {M : mm_N} {d : Int} {a : Nat} (h : a < 31) : mrs M d a = M a := by
  unfold mrs
  rw [mm_f2_row (by omega), mm_f2_row (by omega), mm_f2_row (by omega)]
theorem ok_9 (h : RL N N) (d : Int) : opOK L xs (fun N => RL N N) 64 102 [.inl d] N := by
  have hD := h.2.2.2.1
  have hg := sg_c h
  by_cases hd : (0 ≤ d ∧ d < 3) ∧ N 13 d.toNat = 0
  · by_cases h2 : d = 2
    · subst h2
      have hR := RL_rs h hd.2
      have hA := sd_all hR
      have hc := c_D_restart (L := L) (xs := xs) N 2 (log_b h) hg (fun _ _ i hi => by
        obtain ⟨h1, h3⟩ := hA i (by show (i : Int) ≤ N 0 6; omega)
        refine ⟨by rw [h3]; rfl, h1.2.2.2.2.2.2.1.2, h1.1.1, ?_⟩
        have := h1.2.2.2.2.2.2.2.1.2.1
        omega)
      have e1 : n_D_restart N 2 = itn dsd (N 0 6).toNat (drs N 2) := by
        unfold n_D_restart
        rw [if_neg (fun z => isB.mp z hd.1), if_pos hd.2, if_pos rfl]
        rfl
      rw [e1] at hc
      have hhi : ∀ a, 31 ≤ a → itn dsd (N 0 6).toNat (drs N 2) a = N a := fun a ha => by
        exact (it_row (g := dsd) (fun x M => fr_sif ha) _).trans (drs_hi ha)
      have h1 : RL N _ := RL_hi hhi h
      generalize hM : itn dsd (N 0 6).toNat (drs N 2) = M at hc hhi h1
      have hR1 := RL_rs h1 hd.2
      have hB := sd_all hR1
      have hsg : r_M_sagas (mrs M 2) = N 0 6 := by
        rw [(qL hR1.2.2.2.2.1 0).2.2.2.2.2]
        exact hR1.2.2.2.2.2.2.1.1.1.symm
      have h37 : M 37 (2 : Int).toNat = 0 := by
        show M 37 2 = 0
        rw [(h1.2.2.2.1 2 (by omega)).1]
        exact hd.2
      have hm := c_M_restart (L := L) (xs := xs) M 2 (hw_of h1.2.2.2.2.1) (fun _ _ i hi => by
        rw [hsg] at hi
        obtain ⟨g1, g3⟩ := hB i (by show (i : Int) ≤ N 0 6; omega)
        have q1 := g1.2.2.2.2.1.2.1
        have q2 := hR1.2.2.2.2.1.2.1
        have q3 : itn dsd i (drs N 2) 16 = drs N 2 16 := it_row (fun x M => sif_row (by omega) (by omega)) i
        exact ⟨by rw [q1, q2, q3], mV_of g1, line_c g1⟩)
      have e2 : n_M_restart M 2 = itn msd (N 0 6).toNat (mrs M 2) := by
        unfold n_M_restart
        rw [if_neg (by decide), if_neg (by decide), if_pos h37, if_pos rfl, hsg]
      rw [e2] at hm
      refine op_mk (by decide) (by decide) hc hm ?_ (fun a ha => (it_row (g := msd) (fun x M => fr_sn ha) _).trans (mrs_lo ha)) ?_
      · unfold r_D_restart r_M_restart
        rw [if_neg (fun z => isB.mp z hd.1), if_pos hd.2, if_neg (by decide), if_neg (by decide), if_pos h37]
      · have := (hB (N 0 6).toNat (by show (((N 0 6).toNat : Nat) : Int) ≤ N 0 6; omega)).1
        rw [hM] at this
        exact this
    · have hc := c_D_restart (L := L) (xs := xs) N d (log_b h) hg (fun z => absurd z h2)
      have e1 : n_D_restart N d = mm_f2 N 13 d.toNat 1 := by
        unfold n_D_restart
        rw [if_neg (fun z => isB.mp z hd.1), if_pos hd.2, if_neg h2]
      rw [e1] at hc
      have h1 : RL N (mm_f2 N 13 d.toNat 1) := RL_hi (fun a ha => mm_f2_row (by omega)) h
      generalize hM : mm_f2 N 13 d.toNat 1 = M at hc h1
      have h37 : M 37 d.toNat = 0 := by rw [(h1.2.2.2.1 d.toNat (by omega)).1]; exact hd.2
      have hm := c_M_restart (L := L) (xs := xs) M d (hw_of h1.2.2.2.2.1) (fun z => absurd z h2)
      have e2 : n_M_restart M d = mm_f2 M 37 d.toNat 1 := by
        unfold n_M_restart
        rw [if_neg (show ¬ d < 0 by omega), if_neg (show ¬ 2 < d by omega), if_pos h37, if_neg h2]
      rw [e2] at hm
      refine op_mk (by decide) (by decide) hc hm ?_ (fun a ha => mm_f2_row (by omega)) ?_
      · unfold r_D_restart r_M_restart
        rw [if_neg (fun z => isB.mp z hd.1), if_pos hd.2, if_neg (show ¬ d < 0 by omega), if_neg (show ¬ 2 < d by omega), if_pos h37]
      · have := RL_up (d := d) (v := 1) h1 (by omega) (Or.inr rfl)
        rw [hM] at this
        exact this
  · have en : n_D_restart N d = N ∧ n_M_restart N d = N ∧ r_D_restart N d = r_M_restart N d := by
      unfold n_D_restart n_M_restart r_D_restart r_M_restart
      by_cases a1 : 0 ≤ d ∧ d < 3
      · rw [(hD d.toNat (by omega)).1]
        have a2 : ¬ N 13 d.toNat = 0 := fun z => hd ⟨a1, z⟩
        rw [if_neg (fun z => isB.mp z a1), if_neg (fun z => isB.mp z a1), if_neg (show ¬ d < 0 by omega), if_neg (show ¬ d < 0 by omega), if_neg (show ¬ 2 < d by omega), if_neg (show ¬ 2 < d by omega)]
        simp [a2]
      · rw [if_pos (isB.mpr a1), if_pos (isB.mpr a1)]
        by_cases a2 : d < 0
        · simp [a2]
        · simp [a2, show 2 < d by omega]
    have hc := c_D_restart (L := L) (xs := xs) N d (log_b h) hg (fun z1 z2 => absurd ⟨by omega, z2⟩ hd)
    have hm := c_M_restart (L := L) (xs := xs) N d (hw_of h.2.2.2.2.1) (fun z1 z2 => absurd ⟨by omega, by rw [(hD d.toNat (by omega)).1] at z2; exact z2⟩ hd)
    rw [en.1] at hc
    rw [en.2.1] at hm
    exact op_mk (by decide) (by decide) hc hm en.2.2 (fun a ha => rfl) h
end OPS5
