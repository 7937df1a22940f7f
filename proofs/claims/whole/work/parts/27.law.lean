/-! the law over a relation that its calls keep -/
def opOK (L : Nat) (xs : Nat → Int) (RR : mm_N → Prop) (yc ym : Nat) (as : List mm_V) (N : mm_N) : Prop := mm_Cl mm_pf mm_bd L xs mm_pr 6 yc (.inr (some 0) :: as) shW N (fun r sh N1 => sh = shW ∧ ∃ z, r = some (.inl z) ∧ mm_Cl mm_pf mm_bd L xs mm_pr 6 ym (.inr (some 31) :: as) shW N1 (fun r2 sh2 N2 => r2 = some (.inl z) ∧ sh2 = shW ∧ RR N2))
set_option maxRecDepth 100000 in
theorem lc_0 {L : Nat} {xs : Nat → Int} {RR : mm_N → Prop} {N : mm_N} {x : Int} (hL : L ≤ 2560) (h0 : 0 ≤ x) (h1 : x + 5 ≤ L) (hop : opOK L xs RR 6 80 [.inl (xs (x + 1).toNat), .inl (xs (x + 2).toNat), .inl (xs (x + 3).toNat), .inl (xs (x + 4).toNat)] N) (k : ∀ N2, RR N2 → mm_Wp mm_pf mm_bd L xs (mm_Cl mm_pf mm_bd L xs mm_pr 6) m_W_law (fun r _ _ => r = some (.inl 1)) (591, [(3, .inl x), (2, .inr (some 31)), (1, .inr (some 0)), (0, .inr (some 1000))], [], shW, N2, 44, 1244)) : mm_Wp mm_pf mm_bd L xs (mm_Cl mm_pf mm_bd L xs mm_pr 6) m_W_law (fun r _ _ => r = some (.inl 1)) (124, [(3, .inl x), (2, .inr (some 31)), (1, .inr (some 0)), (0, .inr (some 1000))], [], shW, N, 44, 1244) := by
  refine mm_go 5 (Y := (129, [(3, .inl x), (2, .inr (some 31)), (1, .inr (some 0)), (0, .inr (some 1000))], [.inl (mm_wr (x + 1)), .inr (some 1000), .inr (some 0)], shW, N, 44, 1244)) rfl ?_
  rw [mm_wr_id (z := x + 1) (by omega) (by omega)]
  refine mm_cd (Y := (130, [(3, .inl x), (2, .inr (some 31)), (1, .inr (some 0)), (0, .inr (some 1000))], [.inl (xs (x + 1).toNat), .inr (some 0)], shW, N, 44, 1244)) rfl ⟨by omega, by omega⟩ ?_
  refine mm_go 4 (Y := (134, [(3, .inl x), (2, .inr (some 31)), (1, .inr (some 0)), (0, .inr (some 1000))], [.inl (mm_wr (x + 2)), .inr (some 1000), .inl (xs (x + 1).toNat), .inr (some 0)], shW, N, 44, 1244)) rfl ?_
  rw [mm_wr_id (z := x + 2) (by omega) (by omega)]
  refine mm_cd (Y := (135, [(3, .inl x), (2, .inr (some 31)), (1, .inr (some 0)), (0, .inr (some 1000))], [.inl (xs (x + 2).toNat), .inl (xs (x + 1).toNat), .inr (some 0)], shW, N, 44, 1244)) rfl ⟨by omega, by omega⟩ ?_
  refine mm_go 4 (Y := (139, [(3, .inl x), (2, .inr (some 31)), (1, .inr (some 0)), (0, .inr (some 1000))], [.inl (mm_wr (x + 3)), .inr (some 1000), .inl (xs (x + 2).toNat), .inl (xs (x + 1).toNat), .inr (some 0)], shW, N, 44, 1244)) rfl ?_
  rw [mm_wr_id (z := x + 3) (by omega) (by omega)]
  refine mm_cd (Y := (140, [(3, .inl x), (2, .inr (some 31)), (1, .inr (some 0)), (0, .inr (some 1000))], [.inl (xs (x + 3).toNat), .inl (xs (x + 2).toNat), .inl (xs (x + 1).toNat), .inr (some 0)], shW, N, 44, 1244)) rfl ⟨by omega, by omega⟩ ?_
  refine mm_go 4 (Y := (144, [(3, .inl x), (2, .inr (some 31)), (1, .inr (some 0)), (0, .inr (some 1000))], [.inl (mm_wr (x + 4)), .inr (some 1000), .inl (xs (x + 3).toNat), .inl (xs (x + 2).toNat), .inl (xs (x + 1).toNat), .inr (some 0)], shW, N, 44, 1244)) rfl ?_
  rw [mm_wr_id (z := x + 4) (by omega) (by omega)]
  refine mm_cd (Y := (145, [(3, .inl x), (2, .inr (some 31)), (1, .inr (some 0)), (0, .inr (some 1000))], [.inl (xs (x + 4).toNat), .inl (xs (x + 3).toNat), .inl (xs (x + 2).toNat), .inl (xs (x + 1).toNat), .inr (some 0)], shW, N, 44, 1244)) rfl ⟨by omega, by omega⟩ ?_
  refine mm_ca rfl ⟨⟨_, rfl⟩, rfl, Nat.le_of_ble_eq_true rfl, Nat.le_of_ble_eq_true rfl⟩ (d' := 6) (by decide) hop ?_
  rintro _ _ N1 ⟨rfl, z, rfl, hm⟩
  refine mm_go 0 (Y := (148, [(3, .inl x), (2, .inr (some 31)), (1, .inr (some 0)), (0, .inr (some 1000))], [.inl z], shW, N1, 44, 1244)) rfl ?_
  refine mm_go 5 (Y := (153, [(3, .inl x), (2, .inr (some 31)), (1, .inr (some 0)), (0, .inr (some 1000))], [.inl (mm_wr (x + 1)), .inr (some 1000), .inr (some 31), .inl z], shW, N1, 44, 1244)) rfl ?_
  rw [mm_wr_id (z := x + 1) (by omega) (by omega)]
  refine mm_cd (Y := (154, [(3, .inl x), (2, .inr (some 31)), (1, .inr (some 0)), (0, .inr (some 1000))], [.inl (xs (x + 1).toNat), .inr (some 31), .inl z], shW, N1, 44, 1244)) rfl ⟨by omega, by omega⟩ ?_
  refine mm_go 4 (Y := (158, [(3, .inl x), (2, .inr (some 31)), (1, .inr (some 0)), (0, .inr (some 1000))], [.inl (mm_wr (x + 2)), .inr (some 1000), .inl (xs (x + 1).toNat), .inr (some 31), .inl z], shW, N1, 44, 1244)) rfl ?_
  rw [mm_wr_id (z := x + 2) (by omega) (by omega)]
  refine mm_cd (Y := (159, [(3, .inl x), (2, .inr (some 31)), (1, .inr (some 0)), (0, .inr (some 1000))], [.inl (xs (x + 2).toNat), .inl (xs (x + 1).toNat), .inr (some 31), .inl z], shW, N1, 44, 1244)) rfl ⟨by omega, by omega⟩ ?_
  refine mm_go 4 (Y := (163, [(3, .inl x), (2, .inr (some 31)), (1, .inr (some 0)), (0, .inr (some 1000))], [.inl (mm_wr (x + 3)), .inr (some 1000), .inl (xs (x + 2).toNat), .inl (xs (x + 1).toNat), .inr (some 31), .inl z], shW, N1, 44, 1244)) rfl ?_
  rw [mm_wr_id (z := x + 3) (by omega) (by omega)]
  refine mm_cd (Y := (164, [(3, .inl x), (2, .inr (some 31)), (1, .inr (some 0)), (0, .inr (some 1000))], [.inl (xs (x + 3).toNat), .inl (xs (x + 2).toNat), .inl (xs (x + 1).toNat), .inr (some 31), .inl z], shW, N1, 44, 1244)) rfl ⟨by omega, by omega⟩ ?_
  refine mm_go 4 (Y := (168, [(3, .inl x), (2, .inr (some 31)), (1, .inr (some 0)), (0, .inr (some 1000))], [.inl (mm_wr (x + 4)), .inr (some 1000), .inl (xs (x + 3).toNat), .inl (xs (x + 2).toNat), .inl (xs (x + 1).toNat), .inr (some 31), .inl z], shW, N1, 44, 1244)) rfl ?_
  rw [mm_wr_id (z := x + 4) (by omega) (by omega)]
  refine mm_cd (Y := (169, [(3, .inl x), (2, .inr (some 31)), (1, .inr (some 0)), (0, .inr (some 1000))], [.inl (xs (x + 4).toNat), .inl (xs (x + 3).toNat), .inl (xs (x + 2).toNat), .inl (xs (x + 1).toNat), .inr (some 31), .inl z], shW, N1, 44, 1244)) rfl ⟨by omega, by omega⟩ ?_
  refine mm_ca rfl ⟨⟨_, rfl⟩, rfl, Nat.le_of_ble_eq_true rfl, Nat.le_of_ble_eq_true rfl⟩ (d' := 6) (by decide) hm ?_
  rintro _ _ N2 ⟨rfl, rfl, hR⟩
  refine mm_go 1 (Y := (if z = z then 591 else 175, [(3, .inl x), (2, .inr (some 31)), (1, .inr (some 0)), (0, .inr (some 1000))], [], shW, N2, 44, 1244)) rfl ?_
  rw [if_pos rfl]
  exact k N2 hR
set_option maxRecDepth 100000 in
theorem lc_1 {L : Nat} {xs : Nat → Int} {RR : mm_N → Prop} {N : mm_N} {x : Int} (hL : L ≤ 2560) (h0 : 0 ≤ x) (h1 : x + 5 ≤ L) (hop : opOK L xs RR 11 81 [.inl (xs (x + 1).toNat), .inl (xs (x + 2).toNat), .inl (xs (x + 3).toNat)] N) (k : ∀ N2, RR N2 → mm_Wp mm_pf mm_bd L xs (mm_Cl mm_pf mm_bd L xs mm_pr 6) m_W_law (fun r _ _ => r = some (.inl 1)) (591, [(3, .inl x), (2, .inr (some 31)), (1, .inr (some 0)), (0, .inr (some 1000))], [], shW, N2, 44, 1244)) : mm_Wp mm_pf mm_bd L xs (mm_Cl mm_pf mm_bd L xs mm_pr 6) m_W_law (fun r _ _ => r = some (.inl 1)) (177, [(3, .inl x), (2, .inr (some 31)), (1, .inr (some 0)), (0, .inr (some 1000))], [], shW, N, 44, 1244) := by
  refine mm_go 5 (Y := (182, [(3, .inl x), (2, .inr (some 31)), (1, .inr (some 0)), (0, .inr (some 1000))], [.inl (mm_wr (x + 1)), .inr (some 1000), .inr (some 0)], shW, N, 44, 1244)) rfl ?_
  rw [mm_wr_id (z := x + 1) (by omega) (by omega)]
  refine mm_cd (Y := (183, [(3, .inl x), (2, .inr (some 31)), (1, .inr (some 0)), (0, .inr (some 1000))], [.inl (xs (x + 1).toNat), .inr (some 0)], shW, N, 44, 1244)) rfl ⟨by omega, by omega⟩ ?_
  refine mm_go 4 (Y := (187, [(3, .inl x), (2, .inr (some 31)), (1, .inr (some 0)), (0, .inr (some 1000))], [.inl (mm_wr (x + 2)), .inr (some 1000), .inl (xs (x + 1).toNat), .inr (some 0)], shW, N, 44, 1244)) rfl ?_
  rw [mm_wr_id (z := x + 2) (by omega) (by omega)]
  refine mm_cd (Y := (188, [(3, .inl x), (2, .inr (some 31)), (1, .inr (some 0)), (0, .inr (some 1000))], [.inl (xs (x + 2).toNat), .inl (xs (x + 1).toNat), .inr (some 0)], shW, N, 44, 1244)) rfl ⟨by omega, by omega⟩ ?_
  refine mm_go 4 (Y := (192, [(3, .inl x), (2, .inr (some 31)), (1, .inr (some 0)), (0, .inr (some 1000))], [.inl (mm_wr (x + 3)), .inr (some 1000), .inl (xs (x + 2).toNat), .inl (xs (x + 1).toNat), .inr (some 0)], shW, N, 44, 1244)) rfl ?_
  rw [mm_wr_id (z := x + 3) (by omega) (by omega)]
  refine mm_cd (Y := (193, [(3, .inl x), (2, .inr (some 31)), (1, .inr (some 0)), (0, .inr (some 1000))], [.inl (xs (x + 3).toNat), .inl (xs (x + 2).toNat), .inl (xs (x + 1).toNat), .inr (some 0)], shW, N, 44, 1244)) rfl ⟨by omega, by omega⟩ ?_
  refine mm_ca rfl ⟨⟨_, rfl⟩, rfl, Nat.le_of_ble_eq_true rfl, Nat.le_of_ble_eq_true rfl⟩ (d' := 6) (by decide) hop ?_
  rintro _ _ N1 ⟨rfl, z, rfl, hm⟩
  refine mm_go 0 (Y := (196, [(3, .inl x), (2, .inr (some 31)), (1, .inr (some 0)), (0, .inr (some 1000))], [.inl z], shW, N1, 44, 1244)) rfl ?_
  refine mm_go 5 (Y := (201, [(3, .inl x), (2, .inr (some 31)), (1, .inr (some 0)), (0, .inr (some 1000))], [.inl (mm_wr (x + 1)), .inr (some 1000), .inr (some 31), .inl z], shW, N1, 44, 1244)) rfl ?_
  rw [mm_wr_id (z := x + 1) (by omega) (by omega)]
  refine mm_cd (Y := (202, [(3, .inl x), (2, .inr (some 31)), (1, .inr (some 0)), (0, .inr (some 1000))], [.inl (xs (x + 1).toNat), .inr (some 31), .inl z], shW, N1, 44, 1244)) rfl ⟨by omega, by omega⟩ ?_
  refine mm_go 4 (Y := (206, [(3, .inl x), (2, .inr (some 31)), (1, .inr (some 0)), (0, .inr (some 1000))], [.inl (mm_wr (x + 2)), .inr (some 1000), .inl (xs (x + 1).toNat), .inr (some 31), .inl z], shW, N1, 44, 1244)) rfl ?_
  rw [mm_wr_id (z := x + 2) (by omega) (by omega)]
  refine mm_cd (Y := (207, [(3, .inl x), (2, .inr (some 31)), (1, .inr (some 0)), (0, .inr (some 1000))], [.inl (xs (x + 2).toNat), .inl (xs (x + 1).toNat), .inr (some 31), .inl z], shW, N1, 44, 1244)) rfl ⟨by omega, by omega⟩ ?_
  refine mm_go 4 (Y := (211, [(3, .inl x), (2, .inr (some 31)), (1, .inr (some 0)), (0, .inr (some 1000))], [.inl (mm_wr (x + 3)), .inr (some 1000), .inl (xs (x + 2).toNat), .inl (xs (x + 1).toNat), .inr (some 31), .inl z], shW, N1, 44, 1244)) rfl ?_
  rw [mm_wr_id (z := x + 3) (by omega) (by omega)]
  refine mm_cd (Y := (212, [(3, .inl x), (2, .inr (some 31)), (1, .inr (some 0)), (0, .inr (some 1000))], [.inl (xs (x + 3).toNat), .inl (xs (x + 2).toNat), .inl (xs (x + 1).toNat), .inr (some 31), .inl z], shW, N1, 44, 1244)) rfl ⟨by omega, by omega⟩ ?_
  refine mm_ca rfl ⟨⟨_, rfl⟩, rfl, Nat.le_of_ble_eq_true rfl, Nat.le_of_ble_eq_true rfl⟩ (d' := 6) (by decide) hm ?_
  rintro _ _ N2 ⟨rfl, rfl, hR⟩
  refine mm_go 1 (Y := (if z = z then 591 else 218, [(3, .inl x), (2, .inr (some 31)), (1, .inr (some 0)), (0, .inr (some 1000))], [], shW, N2, 44, 1244)) rfl ?_
  rw [if_pos rfl]
  exact k N2 hR
set_option maxRecDepth 100000 in
theorem lc_2 {L : Nat} {xs : Nat → Int} {RR : mm_N → Prop} {N : mm_N} {x : Int} (hL : L ≤ 2560) (h0 : 0 ≤ x) (h1 : x + 5 ≤ L) (hop : opOK L xs RR 13 96 [.inl (xs (x + 1).toNat)] N) (k : ∀ N2, RR N2 → mm_Wp mm_pf mm_bd L xs (mm_Cl mm_pf mm_bd L xs mm_pr 6) m_W_law (fun r _ _ => r = some (.inl 1)) (591, [(3, .inl x), (2, .inr (some 31)), (1, .inr (some 0)), (0, .inr (some 1000))], [], shW, N2, 44, 1244)) : mm_Wp mm_pf mm_bd L xs (mm_Cl mm_pf mm_bd L xs mm_pr 6) m_W_law (fun r _ _ => r = some (.inl 1)) (220, [(3, .inl x), (2, .inr (some 31)), (1, .inr (some 0)), (0, .inr (some 1000))], [], shW, N, 44, 1244) := by
  refine mm_go 5 (Y := (225, [(3, .inl x), (2, .inr (some 31)), (1, .inr (some 0)), (0, .inr (some 1000))], [.inl (mm_wr (x + 1)), .inr (some 1000), .inr (some 0)], shW, N, 44, 1244)) rfl ?_
  rw [mm_wr_id (z := x + 1) (by omega) (by omega)]
  refine mm_cd (Y := (226, [(3, .inl x), (2, .inr (some 31)), (1, .inr (some 0)), (0, .inr (some 1000))], [.inl (xs (x + 1).toNat), .inr (some 0)], shW, N, 44, 1244)) rfl ⟨by omega, by omega⟩ ?_
  refine mm_ca rfl ⟨⟨_, rfl⟩, rfl, Nat.le_of_ble_eq_true rfl, Nat.le_of_ble_eq_true rfl⟩ (d' := 6) (by decide) hop ?_
  rintro _ _ N1 ⟨rfl, z, rfl, hm⟩
  refine mm_go 0 (Y := (229, [(3, .inl x), (2, .inr (some 31)), (1, .inr (some 0)), (0, .inr (some 1000))], [.inl z], shW, N1, 44, 1244)) rfl ?_
  refine mm_go 5 (Y := (234, [(3, .inl x), (2, .inr (some 31)), (1, .inr (some 0)), (0, .inr (some 1000))], [.inl (mm_wr (x + 1)), .inr (some 1000), .inr (some 31), .inl z], shW, N1, 44, 1244)) rfl ?_
  rw [mm_wr_id (z := x + 1) (by omega) (by omega)]
  refine mm_cd (Y := (235, [(3, .inl x), (2, .inr (some 31)), (1, .inr (some 0)), (0, .inr (some 1000))], [.inl (xs (x + 1).toNat), .inr (some 31), .inl z], shW, N1, 44, 1244)) rfl ⟨by omega, by omega⟩ ?_
  refine mm_ca rfl ⟨⟨_, rfl⟩, rfl, Nat.le_of_ble_eq_true rfl, Nat.le_of_ble_eq_true rfl⟩ (d' := 6) (by decide) hm ?_
  rintro _ _ N2 ⟨rfl, rfl, hR⟩
  refine mm_go 1 (Y := (if z = z then 591 else 241, [(3, .inl x), (2, .inr (some 31)), (1, .inr (some 0)), (0, .inr (some 1000))], [], shW, N2, 44, 1244)) rfl ?_
  rw [if_pos rfl]
  exact k N2 hR
set_option maxRecDepth 100000 in
theorem lc_3 {L : Nat} {xs : Nat → Int} {RR : mm_N → Prop} {N : mm_N} {x : Int} (hL : L ≤ 2560) (h0 : 0 ≤ x) (h1 : x + 5 ≤ L) (hop : opOK L xs RR 22 98 [.inl (xs (x + 1).toNat)] N) (k : ∀ N2, RR N2 → mm_Wp mm_pf mm_bd L xs (mm_Cl mm_pf mm_bd L xs mm_pr 6) m_W_law (fun r _ _ => r = some (.inl 1)) (591, [(3, .inl x), (2, .inr (some 31)), (1, .inr (some 0)), (0, .inr (some 1000))], [], shW, N2, 44, 1244)) : mm_Wp mm_pf mm_bd L xs (mm_Cl mm_pf mm_bd L xs mm_pr 6) m_W_law (fun r _ _ => r = some (.inl 1)) (243, [(3, .inl x), (2, .inr (some 31)), (1, .inr (some 0)), (0, .inr (some 1000))], [], shW, N, 44, 1244) := by
  refine mm_go 5 (Y := (248, [(3, .inl x), (2, .inr (some 31)), (1, .inr (some 0)), (0, .inr (some 1000))], [.inl (mm_wr (x + 1)), .inr (some 1000), .inr (some 0)], shW, N, 44, 1244)) rfl ?_
  rw [mm_wr_id (z := x + 1) (by omega) (by omega)]
  refine mm_cd (Y := (249, [(3, .inl x), (2, .inr (some 31)), (1, .inr (some 0)), (0, .inr (some 1000))], [.inl (xs (x + 1).toNat), .inr (some 0)], shW, N, 44, 1244)) rfl ⟨by omega, by omega⟩ ?_
  refine mm_ca rfl ⟨⟨_, rfl⟩, rfl, Nat.le_of_ble_eq_true rfl, Nat.le_of_ble_eq_true rfl⟩ (d' := 6) (by decide) hop ?_
  rintro _ _ N1 ⟨rfl, z, rfl, hm⟩
  refine mm_go 0 (Y := (252, [(3, .inl x), (2, .inr (some 31)), (1, .inr (some 0)), (0, .inr (some 1000))], [.inl z], shW, N1, 44, 1244)) rfl ?_
  refine mm_go 5 (Y := (257, [(3, .inl x), (2, .inr (some 31)), (1, .inr (some 0)), (0, .inr (some 1000))], [.inl (mm_wr (x + 1)), .inr (some 1000), .inr (some 31), .inl z], shW, N1, 44, 1244)) rfl ?_
  rw [mm_wr_id (z := x + 1) (by omega) (by omega)]
  refine mm_cd (Y := (258, [(3, .inl x), (2, .inr (some 31)), (1, .inr (some 0)), (0, .inr (some 1000))], [.inl (xs (x + 1).toNat), .inr (some 31), .inl z], shW, N1, 44, 1244)) rfl ⟨by omega, by omega⟩ ?_
  refine mm_ca rfl ⟨⟨_, rfl⟩, rfl, Nat.le_of_ble_eq_true rfl, Nat.le_of_ble_eq_true rfl⟩ (d' := 6) (by decide) hm ?_
  rintro _ _ N2 ⟨rfl, rfl, hR⟩
  refine mm_go 1 (Y := (if z = z then 591 else 264, [(3, .inl x), (2, .inr (some 31)), (1, .inr (some 0)), (0, .inr (some 1000))], [], shW, N2, 44, 1244)) rfl ?_
  rw [if_pos rfl]
  exact k N2 hR
set_option maxRecDepth 100000 in
theorem lc_4 {L : Nat} {xs : Nat → Int} {RR : mm_N → Prop} {N : mm_N} {x : Int} (hL : L ≤ 2560) (h0 : 0 ≤ x) (h1 : x + 5 ≤ L) (hop : opOK L xs RR 37 87 [.inl (xs (x + 1).toNat)] N) (k : ∀ N2, RR N2 → mm_Wp mm_pf mm_bd L xs (mm_Cl mm_pf mm_bd L xs mm_pr 6) m_W_law (fun r _ _ => r = some (.inl 1)) (591, [(3, .inl x), (2, .inr (some 31)), (1, .inr (some 0)), (0, .inr (some 1000))], [], shW, N2, 44, 1244)) : mm_Wp mm_pf mm_bd L xs (mm_Cl mm_pf mm_bd L xs mm_pr 6) m_W_law (fun r _ _ => r = some (.inl 1)) (266, [(3, .inl x), (2, .inr (some 31)), (1, .inr (some 0)), (0, .inr (some 1000))], [], shW, N, 44, 1244) := by
  refine mm_go 5 (Y := (271, [(3, .inl x), (2, .inr (some 31)), (1, .inr (some 0)), (0, .inr (some 1000))], [.inl (mm_wr (x + 1)), .inr (some 1000), .inr (some 0)], shW, N, 44, 1244)) rfl ?_
  rw [mm_wr_id (z := x + 1) (by omega) (by omega)]
  refine mm_cd (Y := (272, [(3, .inl x), (2, .inr (some 31)), (1, .inr (some 0)), (0, .inr (some 1000))], [.inl (xs (x + 1).toNat), .inr (some 0)], shW, N, 44, 1244)) rfl ⟨by omega, by omega⟩ ?_
  refine mm_ca rfl ⟨⟨_, rfl⟩, rfl, Nat.le_of_ble_eq_true rfl, Nat.le_of_ble_eq_true rfl⟩ (d' := 6) (by decide) hop ?_
  rintro _ _ N1 ⟨rfl, z, rfl, hm⟩
  refine mm_go 0 (Y := (275, [(3, .inl x), (2, .inr (some 31)), (1, .inr (some 0)), (0, .inr (some 1000))], [.inl z], shW, N1, 44, 1244)) rfl ?_
  refine mm_go 5 (Y := (280, [(3, .inl x), (2, .inr (some 31)), (1, .inr (some 0)), (0, .inr (some 1000))], [.inl (mm_wr (x + 1)), .inr (some 1000), .inr (some 31), .inl z], shW, N1, 44, 1244)) rfl ?_
  rw [mm_wr_id (z := x + 1) (by omega) (by omega)]
  refine mm_cd (Y := (281, [(3, .inl x), (2, .inr (some 31)), (1, .inr (some 0)), (0, .inr (some 1000))], [.inl (xs (x + 1).toNat), .inr (some 31), .inl z], shW, N1, 44, 1244)) rfl ⟨by omega, by omega⟩ ?_
  refine mm_ca rfl ⟨⟨_, rfl⟩, rfl, Nat.le_of_ble_eq_true rfl, Nat.le_of_ble_eq_true rfl⟩ (d' := 6) (by decide) hm ?_
  rintro _ _ N2 ⟨rfl, rfl, hR⟩
  refine mm_go 1 (Y := (if z = z then 591 else 287, [(3, .inl x), (2, .inr (some 31)), (1, .inr (some 0)), (0, .inr (some 1000))], [], shW, N2, 44, 1244)) rfl ?_
  rw [if_pos rfl]
  exact k N2 hR
set_option maxRecDepth 100000 in
theorem lc_5 {L : Nat} {xs : Nat → Int} {RR : mm_N → Prop} {N : mm_N} {x : Int} (hL : L ≤ 2560) (h0 : 0 ≤ x) (h1 : x + 5 ≤ L) (hop : opOK L xs RR 57 82 [.inl (xs (x + 1).toNat)] N) (k : ∀ N2, RR N2 → mm_Wp mm_pf mm_bd L xs (mm_Cl mm_pf mm_bd L xs mm_pr 6) m_W_law (fun r _ _ => r = some (.inl 1)) (591, [(3, .inl x), (2, .inr (some 31)), (1, .inr (some 0)), (0, .inr (some 1000))], [], shW, N2, 44, 1244)) : mm_Wp mm_pf mm_bd L xs (mm_Cl mm_pf mm_bd L xs mm_pr 6) m_W_law (fun r _ _ => r = some (.inl 1)) (289, [(3, .inl x), (2, .inr (some 31)), (1, .inr (some 0)), (0, .inr (some 1000))], [], shW, N, 44, 1244) := by
  refine mm_go 5 (Y := (294, [(3, .inl x), (2, .inr (some 31)), (1, .inr (some 0)), (0, .inr (some 1000))], [.inl (mm_wr (x + 1)), .inr (some 1000), .inr (some 0)], shW, N, 44, 1244)) rfl ?_
  rw [mm_wr_id (z := x + 1) (by omega) (by omega)]
  refine mm_cd (Y := (295, [(3, .inl x), (2, .inr (some 31)), (1, .inr (some 0)), (0, .inr (some 1000))], [.inl (xs (x + 1).toNat), .inr (some 0)], shW, N, 44, 1244)) rfl ⟨by omega, by omega⟩ ?_
  refine mm_ca rfl ⟨⟨_, rfl⟩, rfl, Nat.le_of_ble_eq_true rfl, Nat.le_of_ble_eq_true rfl⟩ (d' := 6) (by decide) hop ?_
  rintro _ _ N1 ⟨rfl, z, rfl, hm⟩
  refine mm_go 0 (Y := (298, [(3, .inl x), (2, .inr (some 31)), (1, .inr (some 0)), (0, .inr (some 1000))], [.inl z], shW, N1, 44, 1244)) rfl ?_
  refine mm_go 5 (Y := (303, [(3, .inl x), (2, .inr (some 31)), (1, .inr (some 0)), (0, .inr (some 1000))], [.inl (mm_wr (x + 1)), .inr (some 1000), .inr (some 31), .inl z], shW, N1, 44, 1244)) rfl ?_
  rw [mm_wr_id (z := x + 1) (by omega) (by omega)]
  refine mm_cd (Y := (304, [(3, .inl x), (2, .inr (some 31)), (1, .inr (some 0)), (0, .inr (some 1000))], [.inl (xs (x + 1).toNat), .inr (some 31), .inl z], shW, N1, 44, 1244)) rfl ⟨by omega, by omega⟩ ?_
  refine mm_ca rfl ⟨⟨_, rfl⟩, rfl, Nat.le_of_ble_eq_true rfl, Nat.le_of_ble_eq_true rfl⟩ (d' := 6) (by decide) hm ?_
  rintro _ _ N2 ⟨rfl, rfl, hR⟩
  refine mm_go 1 (Y := (if z = z then 591 else 310, [(3, .inl x), (2, .inr (some 31)), (1, .inr (some 0)), (0, .inr (some 1000))], [], shW, N2, 44, 1244)) rfl ?_
  rw [if_pos rfl]
  exact k N2 hR
set_option maxRecDepth 100000 in
theorem lc_6 {L : Nat} {xs : Nat → Int} {RR : mm_N → Prop} {N : mm_N} {x : Int} (hL : L ≤ 2560) (h0 : 0 ≤ x) (h1 : x + 5 ≤ L) (hop : opOK L xs RR 58 85 [.inl (xs (x + 1).toNat)] N) (k : ∀ N2, RR N2 → mm_Wp mm_pf mm_bd L xs (mm_Cl mm_pf mm_bd L xs mm_pr 6) m_W_law (fun r _ _ => r = some (.inl 1)) (591, [(3, .inl x), (2, .inr (some 31)), (1, .inr (some 0)), (0, .inr (some 1000))], [], shW, N2, 44, 1244)) : mm_Wp mm_pf mm_bd L xs (mm_Cl mm_pf mm_bd L xs mm_pr 6) m_W_law (fun r _ _ => r = some (.inl 1)) (312, [(3, .inl x), (2, .inr (some 31)), (1, .inr (some 0)), (0, .inr (some 1000))], [], shW, N, 44, 1244) := by
  refine mm_go 5 (Y := (317, [(3, .inl x), (2, .inr (some 31)), (1, .inr (some 0)), (0, .inr (some 1000))], [.inl (mm_wr (x + 1)), .inr (some 1000), .inr (some 0)], shW, N, 44, 1244)) rfl ?_
  rw [mm_wr_id (z := x + 1) (by omega) (by omega)]
  refine mm_cd (Y := (318, [(3, .inl x), (2, .inr (some 31)), (1, .inr (some 0)), (0, .inr (some 1000))], [.inl (xs (x + 1).toNat), .inr (some 0)], shW, N, 44, 1244)) rfl ⟨by omega, by omega⟩ ?_
  refine mm_ca rfl ⟨⟨_, rfl⟩, rfl, Nat.le_of_ble_eq_true rfl, Nat.le_of_ble_eq_true rfl⟩ (d' := 6) (by decide) hop ?_
  rintro _ _ N1 ⟨rfl, z, rfl, hm⟩
  refine mm_go 0 (Y := (321, [(3, .inl x), (2, .inr (some 31)), (1, .inr (some 0)), (0, .inr (some 1000))], [.inl z], shW, N1, 44, 1244)) rfl ?_
  refine mm_go 5 (Y := (326, [(3, .inl x), (2, .inr (some 31)), (1, .inr (some 0)), (0, .inr (some 1000))], [.inl (mm_wr (x + 1)), .inr (some 1000), .inr (some 31), .inl z], shW, N1, 44, 1244)) rfl ?_
  rw [mm_wr_id (z := x + 1) (by omega) (by omega)]
  refine mm_cd (Y := (327, [(3, .inl x), (2, .inr (some 31)), (1, .inr (some 0)), (0, .inr (some 1000))], [.inl (xs (x + 1).toNat), .inr (some 31), .inl z], shW, N1, 44, 1244)) rfl ⟨by omega, by omega⟩ ?_
  refine mm_ca rfl ⟨⟨_, rfl⟩, rfl, Nat.le_of_ble_eq_true rfl, Nat.le_of_ble_eq_true rfl⟩ (d' := 6) (by decide) hm ?_
  rintro _ _ N2 ⟨rfl, rfl, hR⟩
  refine mm_go 1 (Y := (if z = z then 591 else 333, [(3, .inl x), (2, .inr (some 31)), (1, .inr (some 0)), (0, .inr (some 1000))], [], shW, N2, 44, 1244)) rfl ?_
  rw [if_pos rfl]
  exact k N2 hR
set_option maxRecDepth 100000 in
theorem lc_7 {L : Nat} {xs : Nat → Int} {RR : mm_N → Prop} {N : mm_N} {x : Int} (hL : L ≤ 2560) (h0 : 0 ≤ x) (h1 : x + 5 ≤ L) (hop : opOK L xs RR 60 100 [.inl (xs (x + 1).toNat)] N) (k : ∀ N2, RR N2 → mm_Wp mm_pf mm_bd L xs (mm_Cl mm_pf mm_bd L xs mm_pr 6) m_W_law (fun r _ _ => r = some (.inl 1)) (591, [(3, .inl x), (2, .inr (some 31)), (1, .inr (some 0)), (0, .inr (some 1000))], [], shW, N2, 44, 1244)) : mm_Wp mm_pf mm_bd L xs (mm_Cl mm_pf mm_bd L xs mm_pr 6) m_W_law (fun r _ _ => r = some (.inl 1)) (335, [(3, .inl x), (2, .inr (some 31)), (1, .inr (some 0)), (0, .inr (some 1000))], [], shW, N, 44, 1244) := by
  refine mm_go 5 (Y := (340, [(3, .inl x), (2, .inr (some 31)), (1, .inr (some 0)), (0, .inr (some 1000))], [.inl (mm_wr (x + 1)), .inr (some 1000), .inr (some 0)], shW, N, 44, 1244)) rfl ?_
  rw [mm_wr_id (z := x + 1) (by omega) (by omega)]
  refine mm_cd (Y := (341, [(3, .inl x), (2, .inr (some 31)), (1, .inr (some 0)), (0, .inr (some 1000))], [.inl (xs (x + 1).toNat), .inr (some 0)], shW, N, 44, 1244)) rfl ⟨by omega, by omega⟩ ?_
  refine mm_ca rfl ⟨⟨_, rfl⟩, rfl, Nat.le_of_ble_eq_true rfl, Nat.le_of_ble_eq_true rfl⟩ (d' := 6) (by decide) hop ?_
  rintro _ _ N1 ⟨rfl, z, rfl, hm⟩
  refine mm_go 0 (Y := (344, [(3, .inl x), (2, .inr (some 31)), (1, .inr (some 0)), (0, .inr (some 1000))], [.inl z], shW, N1, 44, 1244)) rfl ?_
  refine mm_go 5 (Y := (349, [(3, .inl x), (2, .inr (some 31)), (1, .inr (some 0)), (0, .inr (some 1000))], [.inl (mm_wr (x + 1)), .inr (some 1000), .inr (some 31), .inl z], shW, N1, 44, 1244)) rfl ?_
  rw [mm_wr_id (z := x + 1) (by omega) (by omega)]
  refine mm_cd (Y := (350, [(3, .inl x), (2, .inr (some 31)), (1, .inr (some 0)), (0, .inr (some 1000))], [.inl (xs (x + 1).toNat), .inr (some 31), .inl z], shW, N1, 44, 1244)) rfl ⟨by omega, by omega⟩ ?_
  refine mm_ca rfl ⟨⟨_, rfl⟩, rfl, Nat.le_of_ble_eq_true rfl, Nat.le_of_ble_eq_true rfl⟩ (d' := 6) (by decide) hm ?_
  rintro _ _ N2 ⟨rfl, rfl, hR⟩
  refine mm_go 1 (Y := (if z = z then 591 else 356, [(3, .inl x), (2, .inr (some 31)), (1, .inr (some 0)), (0, .inr (some 1000))], [], shW, N2, 44, 1244)) rfl ?_
  rw [if_pos rfl]
  exact k N2 hR
set_option maxRecDepth 100000 in
theorem lc_8 {L : Nat} {xs : Nat → Int} {RR : mm_N → Prop} {N : mm_N} {x : Int} (hL : L ≤ 2560) (h0 : 0 ≤ x) (h1 : x + 5 ≤ L) (hop : opOK L xs RR 61 101 [.inl (xs (x + 1).toNat)] N) (k : ∀ N2, RR N2 → mm_Wp mm_pf mm_bd L xs (mm_Cl mm_pf mm_bd L xs mm_pr 6) m_W_law (fun r _ _ => r = some (.inl 1)) (591, [(3, .inl x), (2, .inr (some 31)), (1, .inr (some 0)), (0, .inr (some 1000))], [], shW, N2, 44, 1244)) : mm_Wp mm_pf mm_bd L xs (mm_Cl mm_pf mm_bd L xs mm_pr 6) m_W_law (fun r _ _ => r = some (.inl 1)) (358, [(3, .inl x), (2, .inr (some 31)), (1, .inr (some 0)), (0, .inr (some 1000))], [], shW, N, 44, 1244) := by
  refine mm_go 5 (Y := (363, [(3, .inl x), (2, .inr (some 31)), (1, .inr (some 0)), (0, .inr (some 1000))], [.inl (mm_wr (x + 1)), .inr (some 1000), .inr (some 0)], shW, N, 44, 1244)) rfl ?_
  rw [mm_wr_id (z := x + 1) (by omega) (by omega)]
  refine mm_cd (Y := (364, [(3, .inl x), (2, .inr (some 31)), (1, .inr (some 0)), (0, .inr (some 1000))], [.inl (xs (x + 1).toNat), .inr (some 0)], shW, N, 44, 1244)) rfl ⟨by omega, by omega⟩ ?_
  refine mm_ca rfl ⟨⟨_, rfl⟩, rfl, Nat.le_of_ble_eq_true rfl, Nat.le_of_ble_eq_true rfl⟩ (d' := 6) (by decide) hop ?_
  rintro _ _ N1 ⟨rfl, z, rfl, hm⟩
  refine mm_go 0 (Y := (367, [(3, .inl x), (2, .inr (some 31)), (1, .inr (some 0)), (0, .inr (some 1000))], [.inl z], shW, N1, 44, 1244)) rfl ?_
  refine mm_go 5 (Y := (372, [(3, .inl x), (2, .inr (some 31)), (1, .inr (some 0)), (0, .inr (some 1000))], [.inl (mm_wr (x + 1)), .inr (some 1000), .inr (some 31), .inl z], shW, N1, 44, 1244)) rfl ?_
  rw [mm_wr_id (z := x + 1) (by omega) (by omega)]
  refine mm_cd (Y := (373, [(3, .inl x), (2, .inr (some 31)), (1, .inr (some 0)), (0, .inr (some 1000))], [.inl (xs (x + 1).toNat), .inr (some 31), .inl z], shW, N1, 44, 1244)) rfl ⟨by omega, by omega⟩ ?_
  refine mm_ca rfl ⟨⟨_, rfl⟩, rfl, Nat.le_of_ble_eq_true rfl, Nat.le_of_ble_eq_true rfl⟩ (d' := 6) (by decide) hm ?_
  rintro _ _ N2 ⟨rfl, rfl, hR⟩
  refine mm_go 1 (Y := (if z = z then 591 else 379, [(3, .inl x), (2, .inr (some 31)), (1, .inr (some 0)), (0, .inr (some 1000))], [], shW, N2, 44, 1244)) rfl ?_
  rw [if_pos rfl]
  exact k N2 hR
set_option maxRecDepth 100000 in
theorem lc_9 {L : Nat} {xs : Nat → Int} {RR : mm_N → Prop} {N : mm_N} {x : Int} (hL : L ≤ 2560) (h0 : 0 ≤ x) (h1 : x + 5 ≤ L) (hop : opOK L xs RR 64 102 [.inl (xs (x + 1).toNat)] N) (k : ∀ N2, RR N2 → mm_Wp mm_pf mm_bd L xs (mm_Cl mm_pf mm_bd L xs mm_pr 6) m_W_law (fun r _ _ => r = some (.inl 1)) (591, [(3, .inl x), (2, .inr (some 31)), (1, .inr (some 0)), (0, .inr (some 1000))], [], shW, N2, 44, 1244)) : mm_Wp mm_pf mm_bd L xs (mm_Cl mm_pf mm_bd L xs mm_pr 6) m_W_law (fun r _ _ => r = some (.inl 1)) (381, [(3, .inl x), (2, .inr (some 31)), (1, .inr (some 0)), (0, .inr (some 1000))], [], shW, N, 44, 1244) := by
  refine mm_go 5 (Y := (386, [(3, .inl x), (2, .inr (some 31)), (1, .inr (some 0)), (0, .inr (some 1000))], [.inl (mm_wr (x + 1)), .inr (some 1000), .inr (some 0)], shW, N, 44, 1244)) rfl ?_
  rw [mm_wr_id (z := x + 1) (by omega) (by omega)]
  refine mm_cd (Y := (387, [(3, .inl x), (2, .inr (some 31)), (1, .inr (some 0)), (0, .inr (some 1000))], [.inl (xs (x + 1).toNat), .inr (some 0)], shW, N, 44, 1244)) rfl ⟨by omega, by omega⟩ ?_
  refine mm_ca rfl ⟨⟨_, rfl⟩, rfl, Nat.le_of_ble_eq_true rfl, Nat.le_of_ble_eq_true rfl⟩ (d' := 6) (by decide) hop ?_
  rintro _ _ N1 ⟨rfl, z, rfl, hm⟩
  refine mm_go 0 (Y := (390, [(3, .inl x), (2, .inr (some 31)), (1, .inr (some 0)), (0, .inr (some 1000))], [.inl z], shW, N1, 44, 1244)) rfl ?_
  refine mm_go 5 (Y := (395, [(3, .inl x), (2, .inr (some 31)), (1, .inr (some 0)), (0, .inr (some 1000))], [.inl (mm_wr (x + 1)), .inr (some 1000), .inr (some 31), .inl z], shW, N1, 44, 1244)) rfl ?_
  rw [mm_wr_id (z := x + 1) (by omega) (by omega)]
  refine mm_cd (Y := (396, [(3, .inl x), (2, .inr (some 31)), (1, .inr (some 0)), (0, .inr (some 1000))], [.inl (xs (x + 1).toNat), .inr (some 31), .inl z], shW, N1, 44, 1244)) rfl ⟨by omega, by omega⟩ ?_
  refine mm_ca rfl ⟨⟨_, rfl⟩, rfl, Nat.le_of_ble_eq_true rfl, Nat.le_of_ble_eq_true rfl⟩ (d' := 6) (by decide) hm ?_
  rintro _ _ N2 ⟨rfl, rfl, hR⟩
  refine mm_go 1 (Y := (if z = z then 591 else 402, [(3, .inl x), (2, .inr (some 31)), (1, .inr (some 0)), (0, .inr (some 1000))], [], shW, N2, 44, 1244)) rfl ?_
  rw [if_pos rfl]
  exact k N2 hR
set_option maxRecDepth 100000 in
theorem lc_10 {L : Nat} {xs : Nat → Int} {RR : mm_N → Prop} {N : mm_N} {x : Int} (hL : L ≤ 2560) (h0 : 0 ≤ x) (h1 : x + 5 ≤ L) (hop : opOK L xs RR 66 103 [.inl (xs (x + 1).toNat), .inl (xs (x + 2).toNat)] N) (k : ∀ N2, RR N2 → mm_Wp mm_pf mm_bd L xs (mm_Cl mm_pf mm_bd L xs mm_pr 6) m_W_law (fun r _ _ => r = some (.inl 1)) (591, [(3, .inl x), (2, .inr (some 31)), (1, .inr (some 0)), (0, .inr (some 1000))], [], shW, N2, 44, 1244)) : mm_Wp mm_pf mm_bd L xs (mm_Cl mm_pf mm_bd L xs mm_pr 6) m_W_law (fun r _ _ => r = some (.inl 1)) (404, [(3, .inl x), (2, .inr (some 31)), (1, .inr (some 0)), (0, .inr (some 1000))], [], shW, N, 44, 1244) := by
  refine mm_go 5 (Y := (409, [(3, .inl x), (2, .inr (some 31)), (1, .inr (some 0)), (0, .inr (some 1000))], [.inl (mm_wr (x + 1)), .inr (some 1000), .inr (some 0)], shW, N, 44, 1244)) rfl ?_
  rw [mm_wr_id (z := x + 1) (by omega) (by omega)]
  refine mm_cd (Y := (410, [(3, .inl x), (2, .inr (some 31)), (1, .inr (some 0)), (0, .inr (some 1000))], [.inl (xs (x + 1).toNat), .inr (some 0)], shW, N, 44, 1244)) rfl ⟨by omega, by omega⟩ ?_
  refine mm_go 4 (Y := (414, [(3, .inl x), (2, .inr (some 31)), (1, .inr (some 0)), (0, .inr (some 1000))], [.inl (mm_wr (x + 2)), .inr (some 1000), .inl (xs (x + 1).toNat), .inr (some 0)], shW, N, 44, 1244)) rfl ?_
  rw [mm_wr_id (z := x + 2) (by omega) (by omega)]
  refine mm_cd (Y := (415, [(3, .inl x), (2, .inr (some 31)), (1, .inr (some 0)), (0, .inr (some 1000))], [.inl (xs (x + 2).toNat), .inl (xs (x + 1).toNat), .inr (some 0)], shW, N, 44, 1244)) rfl ⟨by omega, by omega⟩ ?_
  refine mm_ca rfl ⟨⟨_, rfl⟩, rfl, Nat.le_of_ble_eq_true rfl, Nat.le_of_ble_eq_true rfl⟩ (d' := 6) (by decide) hop ?_
  rintro _ _ N1 ⟨rfl, z, rfl, hm⟩
  refine mm_go 0 (Y := (418, [(3, .inl x), (2, .inr (some 31)), (1, .inr (some 0)), (0, .inr (some 1000))], [.inl z], shW, N1, 44, 1244)) rfl ?_
  refine mm_go 5 (Y := (423, [(3, .inl x), (2, .inr (some 31)), (1, .inr (some 0)), (0, .inr (some 1000))], [.inl (mm_wr (x + 1)), .inr (some 1000), .inr (some 31), .inl z], shW, N1, 44, 1244)) rfl ?_
  rw [mm_wr_id (z := x + 1) (by omega) (by omega)]
  refine mm_cd (Y := (424, [(3, .inl x), (2, .inr (some 31)), (1, .inr (some 0)), (0, .inr (some 1000))], [.inl (xs (x + 1).toNat), .inr (some 31), .inl z], shW, N1, 44, 1244)) rfl ⟨by omega, by omega⟩ ?_
  refine mm_go 4 (Y := (428, [(3, .inl x), (2, .inr (some 31)), (1, .inr (some 0)), (0, .inr (some 1000))], [.inl (mm_wr (x + 2)), .inr (some 1000), .inl (xs (x + 1).toNat), .inr (some 31), .inl z], shW, N1, 44, 1244)) rfl ?_
  rw [mm_wr_id (z := x + 2) (by omega) (by omega)]
  refine mm_cd (Y := (429, [(3, .inl x), (2, .inr (some 31)), (1, .inr (some 0)), (0, .inr (some 1000))], [.inl (xs (x + 2).toNat), .inl (xs (x + 1).toNat), .inr (some 31), .inl z], shW, N1, 44, 1244)) rfl ⟨by omega, by omega⟩ ?_
  refine mm_ca rfl ⟨⟨_, rfl⟩, rfl, Nat.le_of_ble_eq_true rfl, Nat.le_of_ble_eq_true rfl⟩ (d' := 6) (by decide) hm ?_
  rintro _ _ N2 ⟨rfl, rfl, hR⟩
  refine mm_go 1 (Y := (if z = z then 591 else 435, [(3, .inl x), (2, .inr (some 31)), (1, .inr (some 0)), (0, .inr (some 1000))], [], shW, N2, 44, 1244)) rfl ?_
  rw [if_pos rfl]
  exact k N2 hR
set_option maxRecDepth 100000 in
theorem lc_11 {L : Nat} {xs : Nat → Int} {RR : mm_N → Prop} {N : mm_N} {x : Int} (hL : L ≤ 2560) (h0 : 0 ≤ x) (h1 : x + 5 ≤ L) (hop : opOK L xs RR 68 104 [.inl (xs (x + 1).toNat)] N) (k : ∀ N2, RR N2 → mm_Wp mm_pf mm_bd L xs (mm_Cl mm_pf mm_bd L xs mm_pr 6) m_W_law (fun r _ _ => r = some (.inl 1)) (591, [(3, .inl x), (2, .inr (some 31)), (1, .inr (some 0)), (0, .inr (some 1000))], [], shW, N2, 44, 1244)) : mm_Wp mm_pf mm_bd L xs (mm_Cl mm_pf mm_bd L xs mm_pr 6) m_W_law (fun r _ _ => r = some (.inl 1)) (437, [(3, .inl x), (2, .inr (some 31)), (1, .inr (some 0)), (0, .inr (some 1000))], [], shW, N, 44, 1244) := by
  refine mm_go 5 (Y := (442, [(3, .inl x), (2, .inr (some 31)), (1, .inr (some 0)), (0, .inr (some 1000))], [.inl (mm_wr (x + 1)), .inr (some 1000), .inr (some 0)], shW, N, 44, 1244)) rfl ?_
  rw [mm_wr_id (z := x + 1) (by omega) (by omega)]
  refine mm_cd (Y := (443, [(3, .inl x), (2, .inr (some 31)), (1, .inr (some 0)), (0, .inr (some 1000))], [.inl (xs (x + 1).toNat), .inr (some 0)], shW, N, 44, 1244)) rfl ⟨by omega, by omega⟩ ?_
  refine mm_ca rfl ⟨⟨_, rfl⟩, rfl, Nat.le_of_ble_eq_true rfl, Nat.le_of_ble_eq_true rfl⟩ (d' := 6) (by decide) hop ?_
  rintro _ _ N1 ⟨rfl, z, rfl, hm⟩
  refine mm_go 0 (Y := (446, [(3, .inl x), (2, .inr (some 31)), (1, .inr (some 0)), (0, .inr (some 1000))], [.inl z], shW, N1, 44, 1244)) rfl ?_
  refine mm_go 5 (Y := (451, [(3, .inl x), (2, .inr (some 31)), (1, .inr (some 0)), (0, .inr (some 1000))], [.inl (mm_wr (x + 1)), .inr (some 1000), .inr (some 31), .inl z], shW, N1, 44, 1244)) rfl ?_
  rw [mm_wr_id (z := x + 1) (by omega) (by omega)]
  refine mm_cd (Y := (452, [(3, .inl x), (2, .inr (some 31)), (1, .inr (some 0)), (0, .inr (some 1000))], [.inl (xs (x + 1).toNat), .inr (some 31), .inl z], shW, N1, 44, 1244)) rfl ⟨by omega, by omega⟩ ?_
  refine mm_ca rfl ⟨⟨_, rfl⟩, rfl, Nat.le_of_ble_eq_true rfl, Nat.le_of_ble_eq_true rfl⟩ (d' := 6) (by decide) hm ?_
  rintro _ _ N2 ⟨rfl, rfl, hR⟩
  refine mm_go 1 (Y := (if z = z then 591 else 458, [(3, .inl x), (2, .inr (some 31)), (1, .inr (some 0)), (0, .inr (some 1000))], [], shW, N2, 44, 1244)) rfl ?_
  rw [if_pos rfl]
  exact k N2 hR
set_option maxRecDepth 100000 in
theorem lc_12 {L : Nat} {xs : Nat → Int} {RR : mm_N → Prop} {N : mm_N} {x : Int} (hL : L ≤ 2560) (h0 : 0 ≤ x) (h1 : x + 5 ≤ L) (hop : opOK L xs RR 70 105 [] N) (k : ∀ N2, RR N2 → mm_Wp mm_pf mm_bd L xs (mm_Cl mm_pf mm_bd L xs mm_pr 6) m_W_law (fun r _ _ => r = some (.inl 1)) (591, [(3, .inl x), (2, .inr (some 31)), (1, .inr (some 0)), (0, .inr (some 1000))], [], shW, N2, 44, 1244)) : mm_Wp mm_pf mm_bd L xs (mm_Cl mm_pf mm_bd L xs mm_pr 6) m_W_law (fun r _ _ => r = some (.inl 1)) (460, [(3, .inl x), (2, .inr (some 31)), (1, .inr (some 0)), (0, .inr (some 1000))], [], shW, N, 44, 1244) := by
  refine mm_go 1 (Y := (461, [(3, .inl x), (2, .inr (some 31)), (1, .inr (some 0)), (0, .inr (some 1000))], [.inr (some 0)], shW, N, 44, 1244)) rfl ?_
  refine mm_ca rfl ⟨⟨_, rfl⟩, rfl, Nat.le_of_ble_eq_true rfl, Nat.le_of_ble_eq_true rfl⟩ (d' := 6) (by decide) hop ?_
  rintro _ _ N1 ⟨rfl, z, rfl, hm⟩
  refine mm_go 0 (Y := (464, [(3, .inl x), (2, .inr (some 31)), (1, .inr (some 0)), (0, .inr (some 1000))], [.inl z], shW, N1, 44, 1244)) rfl ?_
  refine mm_go 1 (Y := (465, [(3, .inl x), (2, .inr (some 31)), (1, .inr (some 0)), (0, .inr (some 1000))], [.inr (some 31), .inl z], shW, N1, 44, 1244)) rfl ?_
  refine mm_ca rfl ⟨⟨_, rfl⟩, rfl, Nat.le_of_ble_eq_true rfl, Nat.le_of_ble_eq_true rfl⟩ (d' := 6) (by decide) hm ?_
  rintro _ _ N2 ⟨rfl, rfl, hR⟩
  refine mm_go 1 (Y := (if z = z then 591 else 471, [(3, .inl x), (2, .inr (some 31)), (1, .inr (some 0)), (0, .inr (some 1000))], [], shW, N2, 44, 1244)) rfl ?_
  rw [if_pos rfl]
  exact k N2 hR
set_option maxRecDepth 100000 in
theorem lc_13 {L : Nat} {xs : Nat → Int} {RR : mm_N → Prop} {N : mm_N} {x : Int} (hL : L ≤ 2560) (h0 : 0 ≤ x) (h1 : x + 5 ≤ L) (hop : opOK L xs RR 71 106 [.inl (xs (x + 1).toNat)] N) (k : ∀ N2, RR N2 → mm_Wp mm_pf mm_bd L xs (mm_Cl mm_pf mm_bd L xs mm_pr 6) m_W_law (fun r _ _ => r = some (.inl 1)) (591, [(3, .inl x), (2, .inr (some 31)), (1, .inr (some 0)), (0, .inr (some 1000))], [], shW, N2, 44, 1244)) : mm_Wp mm_pf mm_bd L xs (mm_Cl mm_pf mm_bd L xs mm_pr 6) m_W_law (fun r _ _ => r = some (.inl 1)) (473, [(3, .inl x), (2, .inr (some 31)), (1, .inr (some 0)), (0, .inr (some 1000))], [], shW, N, 44, 1244) := by
  refine mm_go 5 (Y := (478, [(3, .inl x), (2, .inr (some 31)), (1, .inr (some 0)), (0, .inr (some 1000))], [.inl (mm_wr (x + 1)), .inr (some 1000), .inr (some 0)], shW, N, 44, 1244)) rfl ?_
  rw [mm_wr_id (z := x + 1) (by omega) (by omega)]
  refine mm_cd (Y := (479, [(3, .inl x), (2, .inr (some 31)), (1, .inr (some 0)), (0, .inr (some 1000))], [.inl (xs (x + 1).toNat), .inr (some 0)], shW, N, 44, 1244)) rfl ⟨by omega, by omega⟩ ?_
  refine mm_ca rfl ⟨⟨_, rfl⟩, rfl, Nat.le_of_ble_eq_true rfl, Nat.le_of_ble_eq_true rfl⟩ (d' := 6) (by decide) hop ?_
  rintro _ _ N1 ⟨rfl, z, rfl, hm⟩
  refine mm_go 0 (Y := (482, [(3, .inl x), (2, .inr (some 31)), (1, .inr (some 0)), (0, .inr (some 1000))], [.inl z], shW, N1, 44, 1244)) rfl ?_
  refine mm_go 5 (Y := (487, [(3, .inl x), (2, .inr (some 31)), (1, .inr (some 0)), (0, .inr (some 1000))], [.inl (mm_wr (x + 1)), .inr (some 1000), .inr (some 31), .inl z], shW, N1, 44, 1244)) rfl ?_
  rw [mm_wr_id (z := x + 1) (by omega) (by omega)]
  refine mm_cd (Y := (488, [(3, .inl x), (2, .inr (some 31)), (1, .inr (some 0)), (0, .inr (some 1000))], [.inl (xs (x + 1).toNat), .inr (some 31), .inl z], shW, N1, 44, 1244)) rfl ⟨by omega, by omega⟩ ?_
  refine mm_ca rfl ⟨⟨_, rfl⟩, rfl, Nat.le_of_ble_eq_true rfl, Nat.le_of_ble_eq_true rfl⟩ (d' := 6) (by decide) hm ?_
  rintro _ _ N2 ⟨rfl, rfl, hR⟩
  refine mm_go 1 (Y := (if z = z then 591 else 494, [(3, .inl x), (2, .inr (some 31)), (1, .inr (some 0)), (0, .inr (some 1000))], [], shW, N2, 44, 1244)) rfl ?_
  rw [if_pos rfl]
  exact k N2 hR
set_option maxRecDepth 100000 in
theorem lc_14 {L : Nat} {xs : Nat → Int} {RR : mm_N → Prop} {N : mm_N} {x : Int} (hL : L ≤ 2560) (h0 : 0 ≤ x) (h1 : x + 5 ≤ L) (hop : opOK L xs RR 72 107 [] N) (k : ∀ N2, RR N2 → mm_Wp mm_pf mm_bd L xs (mm_Cl mm_pf mm_bd L xs mm_pr 6) m_W_law (fun r _ _ => r = some (.inl 1)) (591, [(3, .inl x), (2, .inr (some 31)), (1, .inr (some 0)), (0, .inr (some 1000))], [], shW, N2, 44, 1244)) : mm_Wp mm_pf mm_bd L xs (mm_Cl mm_pf mm_bd L xs mm_pr 6) m_W_law (fun r _ _ => r = some (.inl 1)) (496, [(3, .inl x), (2, .inr (some 31)), (1, .inr (some 0)), (0, .inr (some 1000))], [], shW, N, 44, 1244) := by
  refine mm_go 1 (Y := (497, [(3, .inl x), (2, .inr (some 31)), (1, .inr (some 0)), (0, .inr (some 1000))], [.inr (some 0)], shW, N, 44, 1244)) rfl ?_
  refine mm_ca rfl ⟨⟨_, rfl⟩, rfl, Nat.le_of_ble_eq_true rfl, Nat.le_of_ble_eq_true rfl⟩ (d' := 6) (by decide) hop ?_
  rintro _ _ N1 ⟨rfl, z, rfl, hm⟩
  refine mm_go 0 (Y := (500, [(3, .inl x), (2, .inr (some 31)), (1, .inr (some 0)), (0, .inr (some 1000))], [.inl z], shW, N1, 44, 1244)) rfl ?_
  refine mm_go 1 (Y := (501, [(3, .inl x), (2, .inr (some 31)), (1, .inr (some 0)), (0, .inr (some 1000))], [.inr (some 31), .inl z], shW, N1, 44, 1244)) rfl ?_
  refine mm_ca rfl ⟨⟨_, rfl⟩, rfl, Nat.le_of_ble_eq_true rfl, Nat.le_of_ble_eq_true rfl⟩ (d' := 6) (by decide) hm ?_
  rintro _ _ N2 ⟨rfl, rfl, hR⟩
  refine mm_go 1 (Y := (if z = z then 591 else 507, [(3, .inl x), (2, .inr (some 31)), (1, .inr (some 0)), (0, .inr (some 1000))], [], shW, N2, 44, 1244)) rfl ?_
  rw [if_pos rfl]
  exact k N2 hR
set_option maxRecDepth 100000 in
theorem lc_15 {L : Nat} {xs : Nat → Int} {RR : mm_N → Prop} {N : mm_N} {x : Int} (hL : L ≤ 2560) (h0 : 0 ≤ x) (h1 : x + 5 ≤ L) (hop : opOK L xs RR 73 108 [] N) (k : ∀ N2, RR N2 → mm_Wp mm_pf mm_bd L xs (mm_Cl mm_pf mm_bd L xs mm_pr 6) m_W_law (fun r _ _ => r = some (.inl 1)) (591, [(3, .inl x), (2, .inr (some 31)), (1, .inr (some 0)), (0, .inr (some 1000))], [], shW, N2, 44, 1244)) : mm_Wp mm_pf mm_bd L xs (mm_Cl mm_pf mm_bd L xs mm_pr 6) m_W_law (fun r _ _ => r = some (.inl 1)) (509, [(3, .inl x), (2, .inr (some 31)), (1, .inr (some 0)), (0, .inr (some 1000))], [], shW, N, 44, 1244) := by
  refine mm_go 1 (Y := (510, [(3, .inl x), (2, .inr (some 31)), (1, .inr (some 0)), (0, .inr (some 1000))], [.inr (some 0)], shW, N, 44, 1244)) rfl ?_
  refine mm_ca rfl ⟨⟨_, rfl⟩, rfl, Nat.le_of_ble_eq_true rfl, Nat.le_of_ble_eq_true rfl⟩ (d' := 6) (by decide) hop ?_
  rintro _ _ N1 ⟨rfl, z, rfl, hm⟩
  refine mm_go 0 (Y := (513, [(3, .inl x), (2, .inr (some 31)), (1, .inr (some 0)), (0, .inr (some 1000))], [.inl z], shW, N1, 44, 1244)) rfl ?_
  refine mm_go 1 (Y := (514, [(3, .inl x), (2, .inr (some 31)), (1, .inr (some 0)), (0, .inr (some 1000))], [.inr (some 31), .inl z], shW, N1, 44, 1244)) rfl ?_
  refine mm_ca rfl ⟨⟨_, rfl⟩, rfl, Nat.le_of_ble_eq_true rfl, Nat.le_of_ble_eq_true rfl⟩ (d' := 6) (by decide) hm ?_
  rintro _ _ N2 ⟨rfl, rfl, hR⟩
  refine mm_go 1 (Y := (if z = z then 591 else 520, [(3, .inl x), (2, .inr (some 31)), (1, .inr (some 0)), (0, .inr (some 1000))], [], shW, N2, 44, 1244)) rfl ?_
  rw [if_pos rfl]
  exact k N2 hR
set_option maxRecDepth 100000 in
theorem lc_16 {L : Nat} {xs : Nat → Int} {RR : mm_N → Prop} {N : mm_N} {x : Int} (hL : L ≤ 2560) (h0 : 0 ≤ x) (h1 : x + 5 ≤ L) (hop : opOK L xs RR 74 109 [.inl (xs (x + 1).toNat)] N) (k : ∀ N2, RR N2 → mm_Wp mm_pf mm_bd L xs (mm_Cl mm_pf mm_bd L xs mm_pr 6) m_W_law (fun r _ _ => r = some (.inl 1)) (591, [(3, .inl x), (2, .inr (some 31)), (1, .inr (some 0)), (0, .inr (some 1000))], [], shW, N2, 44, 1244)) : mm_Wp mm_pf mm_bd L xs (mm_Cl mm_pf mm_bd L xs mm_pr 6) m_W_law (fun r _ _ => r = some (.inl 1)) (522, [(3, .inl x), (2, .inr (some 31)), (1, .inr (some 0)), (0, .inr (some 1000))], [], shW, N, 44, 1244) := by
  refine mm_go 5 (Y := (527, [(3, .inl x), (2, .inr (some 31)), (1, .inr (some 0)), (0, .inr (some 1000))], [.inl (mm_wr (x + 1)), .inr (some 1000), .inr (some 0)], shW, N, 44, 1244)) rfl ?_
  rw [mm_wr_id (z := x + 1) (by omega) (by omega)]
  refine mm_cd (Y := (528, [(3, .inl x), (2, .inr (some 31)), (1, .inr (some 0)), (0, .inr (some 1000))], [.inl (xs (x + 1).toNat), .inr (some 0)], shW, N, 44, 1244)) rfl ⟨by omega, by omega⟩ ?_
  refine mm_ca rfl ⟨⟨_, rfl⟩, rfl, Nat.le_of_ble_eq_true rfl, Nat.le_of_ble_eq_true rfl⟩ (d' := 6) (by decide) hop ?_
  rintro _ _ N1 ⟨rfl, z, rfl, hm⟩
  refine mm_go 0 (Y := (531, [(3, .inl x), (2, .inr (some 31)), (1, .inr (some 0)), (0, .inr (some 1000))], [.inl z], shW, N1, 44, 1244)) rfl ?_
  refine mm_go 5 (Y := (536, [(3, .inl x), (2, .inr (some 31)), (1, .inr (some 0)), (0, .inr (some 1000))], [.inl (mm_wr (x + 1)), .inr (some 1000), .inr (some 31), .inl z], shW, N1, 44, 1244)) rfl ?_
  rw [mm_wr_id (z := x + 1) (by omega) (by omega)]
  refine mm_cd (Y := (537, [(3, .inl x), (2, .inr (some 31)), (1, .inr (some 0)), (0, .inr (some 1000))], [.inl (xs (x + 1).toNat), .inr (some 31), .inl z], shW, N1, 44, 1244)) rfl ⟨by omega, by omega⟩ ?_
  refine mm_ca rfl ⟨⟨_, rfl⟩, rfl, Nat.le_of_ble_eq_true rfl, Nat.le_of_ble_eq_true rfl⟩ (d' := 6) (by decide) hm ?_
  rintro _ _ N2 ⟨rfl, rfl, hR⟩
  refine mm_go 1 (Y := (if z = z then 591 else 543, [(3, .inl x), (2, .inr (some 31)), (1, .inr (some 0)), (0, .inr (some 1000))], [], shW, N2, 44, 1244)) rfl ?_
  rw [if_pos rfl]
  exact k N2 hR
set_option maxRecDepth 100000 in
theorem lc_17 {L : Nat} {xs : Nat → Int} {RR : mm_N → Prop} {N : mm_N} {x : Int} (hL : L ≤ 2560) (h0 : 0 ≤ x) (h1 : x + 5 ≤ L) (hop : opOK L xs RR 76 110 [.inl (xs (x + 1).toNat)] N) (k : ∀ N2, RR N2 → mm_Wp mm_pf mm_bd L xs (mm_Cl mm_pf mm_bd L xs mm_pr 6) m_W_law (fun r _ _ => r = some (.inl 1)) (591, [(3, .inl x), (2, .inr (some 31)), (1, .inr (some 0)), (0, .inr (some 1000))], [], shW, N2, 44, 1244)) : mm_Wp mm_pf mm_bd L xs (mm_Cl mm_pf mm_bd L xs mm_pr 6) m_W_law (fun r _ _ => r = some (.inl 1)) (545, [(3, .inl x), (2, .inr (some 31)), (1, .inr (some 0)), (0, .inr (some 1000))], [], shW, N, 44, 1244) := by
  refine mm_go 5 (Y := (550, [(3, .inl x), (2, .inr (some 31)), (1, .inr (some 0)), (0, .inr (some 1000))], [.inl (mm_wr (x + 1)), .inr (some 1000), .inr (some 0)], shW, N, 44, 1244)) rfl ?_
  rw [mm_wr_id (z := x + 1) (by omega) (by omega)]
  refine mm_cd (Y := (551, [(3, .inl x), (2, .inr (some 31)), (1, .inr (some 0)), (0, .inr (some 1000))], [.inl (xs (x + 1).toNat), .inr (some 0)], shW, N, 44, 1244)) rfl ⟨by omega, by omega⟩ ?_
  refine mm_ca rfl ⟨⟨_, rfl⟩, rfl, Nat.le_of_ble_eq_true rfl, Nat.le_of_ble_eq_true rfl⟩ (d' := 6) (by decide) hop ?_
  rintro _ _ N1 ⟨rfl, z, rfl, hm⟩
  refine mm_go 0 (Y := (554, [(3, .inl x), (2, .inr (some 31)), (1, .inr (some 0)), (0, .inr (some 1000))], [.inl z], shW, N1, 44, 1244)) rfl ?_
  refine mm_go 5 (Y := (559, [(3, .inl x), (2, .inr (some 31)), (1, .inr (some 0)), (0, .inr (some 1000))], [.inl (mm_wr (x + 1)), .inr (some 1000), .inr (some 31), .inl z], shW, N1, 44, 1244)) rfl ?_
  rw [mm_wr_id (z := x + 1) (by omega) (by omega)]
  refine mm_cd (Y := (560, [(3, .inl x), (2, .inr (some 31)), (1, .inr (some 0)), (0, .inr (some 1000))], [.inl (xs (x + 1).toNat), .inr (some 31), .inl z], shW, N1, 44, 1244)) rfl ⟨by omega, by omega⟩ ?_
  refine mm_ca rfl ⟨⟨_, rfl⟩, rfl, Nat.le_of_ble_eq_true rfl, Nat.le_of_ble_eq_true rfl⟩ (d' := 6) (by decide) hm ?_
  rintro _ _ N2 ⟨rfl, rfl, hR⟩
  refine mm_go 1 (Y := (if z = z then 591 else 566, [(3, .inl x), (2, .inr (some 31)), (1, .inr (some 0)), (0, .inr (some 1000))], [], shW, N2, 44, 1244)) rfl ?_
  rw [if_pos rfl]
  exact k N2 hR
set_option maxRecDepth 100000 in
theorem lc_18 {L : Nat} {xs : Nat → Int} {RR : mm_N → Prop} {N : mm_N} {x : Int} (hL : L ≤ 2560) (h0 : 0 ≤ x) (h1 : x + 5 ≤ L) (hop : opOK L xs RR 78 111 [.inl (xs (x + 1).toNat)] N) (k : ∀ N2, RR N2 → mm_Wp mm_pf mm_bd L xs (mm_Cl mm_pf mm_bd L xs mm_pr 6) m_W_law (fun r _ _ => r = some (.inl 1)) (591, [(3, .inl x), (2, .inr (some 31)), (1, .inr (some 0)), (0, .inr (some 1000))], [], shW, N2, 44, 1244)) : mm_Wp mm_pf mm_bd L xs (mm_Cl mm_pf mm_bd L xs mm_pr 6) m_W_law (fun r _ _ => r = some (.inl 1)) (568, [(3, .inl x), (2, .inr (some 31)), (1, .inr (some 0)), (0, .inr (some 1000))], [], shW, N, 44, 1244) := by
  refine mm_go 5 (Y := (573, [(3, .inl x), (2, .inr (some 31)), (1, .inr (some 0)), (0, .inr (some 1000))], [.inl (mm_wr (x + 1)), .inr (some 1000), .inr (some 0)], shW, N, 44, 1244)) rfl ?_
  rw [mm_wr_id (z := x + 1) (by omega) (by omega)]
  refine mm_cd (Y := (574, [(3, .inl x), (2, .inr (some 31)), (1, .inr (some 0)), (0, .inr (some 1000))], [.inl (xs (x + 1).toNat), .inr (some 0)], shW, N, 44, 1244)) rfl ⟨by omega, by omega⟩ ?_
  refine mm_ca rfl ⟨⟨_, rfl⟩, rfl, Nat.le_of_ble_eq_true rfl, Nat.le_of_ble_eq_true rfl⟩ (d' := 6) (by decide) hop ?_
  rintro _ _ N1 ⟨rfl, z, rfl, hm⟩
  refine mm_go 0 (Y := (577, [(3, .inl x), (2, .inr (some 31)), (1, .inr (some 0)), (0, .inr (some 1000))], [.inl z], shW, N1, 44, 1244)) rfl ?_
  refine mm_go 5 (Y := (582, [(3, .inl x), (2, .inr (some 31)), (1, .inr (some 0)), (0, .inr (some 1000))], [.inl (mm_wr (x + 1)), .inr (some 1000), .inr (some 31), .inl z], shW, N1, 44, 1244)) rfl ?_
  rw [mm_wr_id (z := x + 1) (by omega) (by omega)]
  refine mm_cd (Y := (583, [(3, .inl x), (2, .inr (some 31)), (1, .inr (some 0)), (0, .inr (some 1000))], [.inl (xs (x + 1).toNat), .inr (some 31), .inl z], shW, N1, 44, 1244)) rfl ⟨by omega, by omega⟩ ?_
  refine mm_ca rfl ⟨⟨_, rfl⟩, rfl, Nat.le_of_ble_eq_true rfl, Nat.le_of_ble_eq_true rfl⟩ (d' := 6) (by decide) hm ?_
  rintro _ _ N2 ⟨rfl, rfl, hR⟩
  refine mm_go 1 (Y := (if z = z then 591 else 589, [(3, .inl x), (2, .inr (some 31)), (1, .inr (some 0)), (0, .inr (some 1000))], [], shW, N2, 44, 1244)) rfl ?_
  rw [if_pos rfl]
  exact k N2 hR
def lw_ops (L : Nat) (xs : Nat → Int) (RR : mm_N → Prop) : Prop := ∀ N, RR N → ∀ a b c d : Int, mm_ir a → mm_ir b → mm_ir c → mm_ir d → opOK L xs RR 6 80 [.inl a, .inl b, .inl c, .inl d] N ∧ opOK L xs RR 11 81 [.inl a, .inl b, .inl c] N ∧ opOK L xs RR 13 96 [.inl a] N ∧ opOK L xs RR 22 98 [.inl a] N ∧ opOK L xs RR 37 87 [.inl a] N ∧ opOK L xs RR 57 82 [.inl a] N ∧ opOK L xs RR 58 85 [.inl a] N ∧ opOK L xs RR 60 100 [.inl a] N ∧ opOK L xs RR 61 101 [.inl a] N ∧ opOK L xs RR 64 102 [.inl a] N ∧ opOK L xs RR 66 103 [.inl a, .inl b] N ∧ opOK L xs RR 68 104 [.inl a] N ∧ opOK L xs RR 70 105 [] N ∧ opOK L xs RR 71 106 [.inl a] N ∧ opOK L xs RR 72 107 [] N ∧ opOK L xs RR 73 108 [] N ∧ opOK L xs RR 74 109 [.inl a] N ∧ opOK L xs RR 76 110 [.inl a] N ∧ opOK L xs RR 78 111 [.inl a] N
set_option maxRecDepth 100000 in
theorem lw_loop {L : Nat} {xs : Nat → Int} {RR : mm_N → Prop} (hL : L ≤ 2560) (hxs : ∀ j, mm_ir (xs j)) (hop : lw_ops L xs RR) : ∀ (n : Nat) (x : Int) (N : mm_N), 0 ≤ x → (L : Int) - x ≤ n → x ≤ 3000 → RR N → mm_Wp mm_pf mm_bd L xs (mm_Cl mm_pf mm_bd L xs mm_pr 6) m_W_law (fun r _ _ => r = some (.inl 1)) (18, [(3, .inl x), (2, .inr (some 31)), (1, .inr (some 0)), (0, .inr (some 1000))], [], shW, N, 44, 1244) := by
  intro n
  induction n with
  | zero =>
    intro x N h0 h1 h2 hR
    refine mm_go 5 (Y := (23, [(3, .inl x), (2, .inr (some 31)), (1, .inr (some 0)), (0, .inr (some 1000))], [.inl (mm_wr ((L : Int) - 5)), .inl x], shW, N, 44, 1244)) rfl ?_
    rw [mm_wr_id (z := (L : Int) - 5) (by omega) (by omega)]
    refine mm_go 1 (Y := (if ((L : Int) - 5) < x then 597 else 26, [(3, .inl x), (2, .inr (some 31)), (1, .inr (some 0)), (0, .inr (some 1000))], [], shW, N, 44, 1244)) rfl ?_
    rw [if_pos (by omega)]
    refine mm_go 1 (Y := (598, [(3, .inl x), (2, .inr (some 31)), (1, .inr (some 0)), (0, .inr (some 1000))], [.inl 1], shW, N, 44, 1244)) rfl ?_
    exact mm_rt rfl ⟨rfl, Or.inr ⟨rfl, Or.inr rfl⟩⟩ rfl
  | succ n ih =>
    intro x N h0 h1 h2 hR
    refine mm_go 5 (Y := (23, [(3, .inl x), (2, .inr (some 31)), (1, .inr (some 0)), (0, .inr (some 1000))], [.inl (mm_wr ((L : Int) - 5)), .inl x], shW, N, 44, 1244)) rfl ?_
    rw [mm_wr_id (z := (L : Int) - 5) (by omega) (by omega)]
    refine mm_go 1 (Y := (if ((L : Int) - 5) < x then 597 else 26, [(3, .inl x), (2, .inr (some 31)), (1, .inr (some 0)), (0, .inr (some 1000))], [], shW, N, 44, 1244)) rfl ?_
    refine mm_if (fun h3 => ?_) (fun h3 => ?_)
    · refine mm_go 1 (Y := (598, [(3, .inl x), (2, .inr (some 31)), (1, .inr (some 0)), (0, .inr (some 1000))], [.inl 1], shW, N, 44, 1244)) rfl ?_
      exact mm_rt rfl ⟨rfl, Or.inr ⟨rfl, Or.inr rfl⟩⟩ rfl
    · have k : ∀ N2, RR N2 → mm_Wp mm_pf mm_bd L xs (mm_Cl mm_pf mm_bd L xs mm_pr 6) m_W_law (fun r _ _ => r = some (.inl 1)) (591, [(3, .inl x), (2, .inr (some 31)), (1, .inr (some 0)), (0, .inr (some 1000))], [], shW, N2, 44, 1244) := by
        intro N2 hR2
        refine mm_go 1 (Y := (594, [(3, .inl (mm_wr (x + 5))), (2, .inr (some 31)), (1, .inr (some 0)), (0, .inr (some 1000))], [], shW, N2, 44, 1244)) rfl ?_
        rw [mm_wr_id (z := x + 5) (by omega) (by omega)]
        refine mm_go 1 (Y := (18, [(3, .inl (x + 5)), (2, .inr (some 31)), (1, .inr (some 0)), (0, .inr (some 1000))], [], shW, N2, 44, 1244)) rfl ?_
        exact ih (x + 5) N2 (by omega) (by omega) (by omega) hR2
      refine mm_go 2 (Y := (28, [(3, .inl x), (2, .inr (some 31)), (1, .inr (some 0)), (0, .inr (some 1000))], [.inl x, .inr (some 1000)], shW, N, 44, 1244)) rfl ?_
      refine mm_cd (Y := (29, [(3, .inl x), (2, .inr (some 31)), (1, .inr (some 0)), (0, .inr (some 1000))], [.inl (xs x.toNat)], shW, N, 44, 1244)) rfl ⟨by omega, by omega⟩ ?_
      refine mm_go 2 (Y := (32, [(3, .inl x), (2, .inr (some 31)), (1, .inr (some 0)), (0, .inr (some 1000))], [.inl (mm_and (xs x.toNat) 31)], shW, N, 44, 1244)) rfl ?_
      generalize mm_and (xs x.toNat) 31 = v
      refine mm_go 1 (Y := (mm_tgt 32 559 0 18 #[92, 145, 188, 211, 234, 257, 280, 303, 326, 349, 372, 405, 428, 441, 464, 477, 490, 513, 536] v, [(3, .inl x), (2, .inr (some 31)), (1, .inr (some 0)), (0, .inr (some 1000))], [], shW, N, 44, 1244)) rfl ?_
      obtain ⟨o0, o1, o2, o3, o4, o5, o6, o7, o8, o9, o10, o11, o12, o13, o14, o15, o16, o17, o18⟩ := hop N hR (xs (x + 1).toNat) (xs (x + 2).toNat) (xs (x + 3).toNat) (xs (x + 4).toNat) (hxs _) (hxs _) (hxs _) (hxs _)
      have hv : (v < 0 ∨ 18 < v) ∨ v = 0 ∨ v = 1 ∨ v = 2 ∨ v = 3 ∨ v = 4 ∨ v = 5 ∨ v = 6 ∨ v = 7 ∨ v = 8 ∨ v = 9 ∨ v = 10 ∨ v = 11 ∨ v = 12 ∨ v = 13 ∨ v = 14 ∨ v = 15 ∨ v = 16 ∨ v = 17 ∨ v = 18 := by omega
      rcases hv with hv | rfl | rfl | rfl | rfl | rfl | rfl | rfl | rfl | rfl | rfl | rfl | rfl | rfl | rfl | rfl | rfl | rfl | rfl | rfl
      · have ht : mm_tgt 32 559 0 18 #[92, 145, 188, 211, 234, 257, 280, 303, 326, 349, 372, 405, 428, 441, 464, 477, 490, 513, 536] v = 591 := by
          unfold mm_tgt
          rw [if_pos hv]
          rfl
        rw [ht]
        exact k N hR
      · refine mm_go 0 (Y := (124, [(3, .inl x), (2, .inr (some 31)), (1, .inr (some 0)), (0, .inr (some 1000))], [], shW, N, 44, 1244)) rfl ?_
        exact lc_0 hL h0 (by omega) o0 k
      · refine mm_go 0 (Y := (177, [(3, .inl x), (2, .inr (some 31)), (1, .inr (some 0)), (0, .inr (some 1000))], [], shW, N, 44, 1244)) rfl ?_
        exact lc_1 hL h0 (by omega) o1 k
      · refine mm_go 0 (Y := (220, [(3, .inl x), (2, .inr (some 31)), (1, .inr (some 0)), (0, .inr (some 1000))], [], shW, N, 44, 1244)) rfl ?_
        exact lc_2 hL h0 (by omega) o2 k
      · refine mm_go 0 (Y := (243, [(3, .inl x), (2, .inr (some 31)), (1, .inr (some 0)), (0, .inr (some 1000))], [], shW, N, 44, 1244)) rfl ?_
        exact lc_3 hL h0 (by omega) o3 k
      · refine mm_go 0 (Y := (266, [(3, .inl x), (2, .inr (some 31)), (1, .inr (some 0)), (0, .inr (some 1000))], [], shW, N, 44, 1244)) rfl ?_
        exact lc_4 hL h0 (by omega) o4 k
      · refine mm_go 0 (Y := (289, [(3, .inl x), (2, .inr (some 31)), (1, .inr (some 0)), (0, .inr (some 1000))], [], shW, N, 44, 1244)) rfl ?_
        exact lc_5 hL h0 (by omega) o5 k
      · refine mm_go 0 (Y := (312, [(3, .inl x), (2, .inr (some 31)), (1, .inr (some 0)), (0, .inr (some 1000))], [], shW, N, 44, 1244)) rfl ?_
        exact lc_6 hL h0 (by omega) o6 k
      · refine mm_go 0 (Y := (335, [(3, .inl x), (2, .inr (some 31)), (1, .inr (some 0)), (0, .inr (some 1000))], [], shW, N, 44, 1244)) rfl ?_
        exact lc_7 hL h0 (by omega) o7 k
      · refine mm_go 0 (Y := (358, [(3, .inl x), (2, .inr (some 31)), (1, .inr (some 0)), (0, .inr (some 1000))], [], shW, N, 44, 1244)) rfl ?_
        exact lc_8 hL h0 (by omega) o8 k
      · refine mm_go 0 (Y := (381, [(3, .inl x), (2, .inr (some 31)), (1, .inr (some 0)), (0, .inr (some 1000))], [], shW, N, 44, 1244)) rfl ?_
        exact lc_9 hL h0 (by omega) o9 k
      · refine mm_go 0 (Y := (404, [(3, .inl x), (2, .inr (some 31)), (1, .inr (some 0)), (0, .inr (some 1000))], [], shW, N, 44, 1244)) rfl ?_
        exact lc_10 hL h0 (by omega) o10 k
      · refine mm_go 0 (Y := (437, [(3, .inl x), (2, .inr (some 31)), (1, .inr (some 0)), (0, .inr (some 1000))], [], shW, N, 44, 1244)) rfl ?_
        exact lc_11 hL h0 (by omega) o11 k
      · refine mm_go 0 (Y := (460, [(3, .inl x), (2, .inr (some 31)), (1, .inr (some 0)), (0, .inr (some 1000))], [], shW, N, 44, 1244)) rfl ?_
        exact lc_12 hL h0 (by omega) o12 k
      · refine mm_go 0 (Y := (473, [(3, .inl x), (2, .inr (some 31)), (1, .inr (some 0)), (0, .inr (some 1000))], [], shW, N, 44, 1244)) rfl ?_
        exact lc_13 hL h0 (by omega) o13 k
      · refine mm_go 0 (Y := (496, [(3, .inl x), (2, .inr (some 31)), (1, .inr (some 0)), (0, .inr (some 1000))], [], shW, N, 44, 1244)) rfl ?_
        exact lc_14 hL h0 (by omega) o14 k
      · refine mm_go 0 (Y := (509, [(3, .inl x), (2, .inr (some 31)), (1, .inr (some 0)), (0, .inr (some 1000))], [], shW, N, 44, 1244)) rfl ?_
        exact lc_15 hL h0 (by omega) o15 k
      · refine mm_go 0 (Y := (522, [(3, .inl x), (2, .inr (some 31)), (1, .inr (some 0)), (0, .inr (some 1000))], [], shW, N, 44, 1244)) rfl ?_
        exact lc_16 hL h0 (by omega) o16 k
      · refine mm_go 0 (Y := (545, [(3, .inl x), (2, .inr (some 31)), (1, .inr (some 0)), (0, .inr (some 1000))], [], shW, N, 44, 1244)) rfl ?_
        exact lc_17 hL h0 (by omega) o17 k
      · refine mm_go 0 (Y := (568, [(3, .inl x), (2, .inr (some 31)), (1, .inr (some 0)), (0, .inr (some 1000))], [], shW, N, 44, 1244)) rfl ?_
        exact lc_18 hL h0 (by omega) o18 k
set_option maxRecDepth 100000 in
theorem lw_gen {L : Nat} {xs : Nat → Int} {RR : mm_N → Prop} (hL : L ≤ 2560) (hxs : ∀ j, mm_ir (xs j)) (hop : lw_ops L xs RR) (h0 : RR nm2_) : lw_law L xs := by
  show mm_Wp mm_pf mm_bd L xs (mm_Cl mm_pf mm_bd L xs mm_pr 6) m_W_law (fun r _ _ => r = some (.inl 1)) (0, [(0, .inr (some 1000))], [], [], zN, 0, 0)
  refine mm_cd (Y := (3, [(0, .inr (some 1000))], [.inr (some 0)], hs_0, (mm_f0 zN 0 (fun _ => 0)), 1, 8)) rfl ⟨Nat.le_of_ble_eq_true rfl, Nat.le_of_ble_eq_true rfl, Nat.le_of_ble_eq_true rfl⟩ ?_
  rw [f0_id (N := zN) (r := 0) (f := fun _ => 0) rfl]
  refine mm_go 1 (Y := (4, [(0, .inr (some 1000))], [.inr (some 0), .inr (some 0)], hs_0, zN, 1, 8)) rfl ?_
  refine mm_ca rfl ⟨rfl, Nat.le_of_ble_eq_true rfl, Nat.le_of_ble_eq_true rfl⟩ (d' := 2) (by decide) (ct_D_init_0) ?_
  rintro _ _ _ ⟨rfl, rfl, rfl⟩
  refine mm_go 1 (Y := (8, [(1, .inr (some 0)), (0, .inr (some 1000))], [], hs_60, nr2_, 31, 672)) rfl ?_
  refine mm_cd (Y := (11, [(1, .inr (some 0)), (0, .inr (some 1000))], [.inr (some 31)], hs_61, (mm_f0 nr2_ 31 (fun _ => 0)), 32, 693)) rfl ⟨Nat.le_of_ble_eq_true rfl, Nat.le_of_ble_eq_true rfl, Nat.le_of_ble_eq_true rfl⟩ ?_
  rw [f0_id (N := nr2_) (r := 31) (f := fun _ => 0) rfl]
  refine mm_go 1 (Y := (12, [(1, .inr (some 0)), (0, .inr (some 1000))], [.inr (some 31), .inr (some 31)], hs_61, nr2_, 32, 693)) rfl ?_
  refine mm_ca rfl ⟨rfl, Nat.le_of_ble_eq_true rfl, Nat.le_of_ble_eq_true rfl⟩ (d' := 1) (by decide) (ct_M_init_0) ?_
  rintro _ _ _ ⟨rfl, rfl, rfl⟩
  rw [ct_end]
  refine mm_go 3 (Y := (18, [(3, .inl 0), (2, .inr (some 31)), (1, .inr (some 0)), (0, .inr (some 1000))], [], shW, nm2_, 44, 1244)) rfl ?_
  exact lw_loop hL hxs hop L 0 _ (by omega) (by omega) (by omega) h0
