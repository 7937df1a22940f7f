/-! the beginning, and the whole walk -/
theorem cz_z : ∀ i : Nat, cz (fun _ => 0) i = 0
  | 0 => rfl
  | i + 1 => by
    show (if (0 : Int) = 0 then cz (fun _ => 0) i else cz (fun _ => 0) i + 1) = 0
    rw [if_pos rfl, cz_z i]
theorem RL_0 : RL nm2_ nm2_ := by
  have hr : ∀ a, a ≠ 13 → a ≠ 37 → nm2_ a = fun _ => 0 := by
    intro a h1 h2
    unfold nm2_ nm1_ nm0_ nr2_ nr1_ nr0_
    rw [mm_f2_row h2, mm_f2_row h2, mm_f2_row h2, mm_f2_row h1, mm_f2_row h1, mm_f2_row h1]
    rfl
  have hm : mC nm2_ = 0 := by unfold mC; rw [hr 16 (by decide) (by decide)]; rfl
  refine ⟨⟨⟨fun k hk => ?_, fun p hp => ?_⟩, fun k hk => ?_, fun p hp => ?_⟩, ⟨?_, ?_⟩, fun t ht => ?_, fun n hn => ?_, ⟨fun j hj => ?_, ?_, ?_, ?_⟩, ⟨?_, fun _ => ?_, fun _ => ?_, fun _ => ?_⟩, ⟨?_, fun i hi => ?_⟩, ⟨?_, ?_, fun j hj => ?_⟩, fun j hj => ?_, ?_, ?_⟩
  · rw [hr 2 (by decide) (by decide)]; show (0 : Int) ≤ 0 ∧ (0 : Int) ≤ 4; decide
  · rw [hr 3 (by decide) (by decide), hr 4 (by decide) (by decide)]; show ((0 : Int) ≤ 0 ∧ (0 : Int) ≤ 2) ∧ (0 : Int) ≤ 0 ∧ (0 : Int) < 8; decide
  · rw [hr 32 (by decide) (by decide), hr 2 (by decide) (by decide)]
  · rw [hr 33 (by decide) (by decide), hr 34 (by decide) (by decide), hr 35 (by decide) (by decide), hr 3 (by decide) (by decide), hr 4 (by decide) (by decide), hr 5 (by decide) (by decide)]; exact ⟨rfl, rfl, rfl⟩
  · rw [hr 31 (by decide) (by decide), hr 0 (by decide) (by decide)]
  · rw [hr 0 (by decide) (by decide)]; exact Or.inl rfl
  · rw [hr 36 (by decide) (by decide), hr 8 (by decide) (by decide), hr 11 (by decide) (by decide)]; exact ⟨rfl, rfl⟩
  · have hn3 : n = 0 ∨ n = 1 ∨ n = 2 := by omega
    rcases hn3 with rfl | rfl | rfl
    · exact ⟨rfl, Or.inr rfl⟩
    · exact ⟨rfl, Or.inr rfl⟩
    · exact ⟨rfl, Or.inr rfl⟩
  · rw [hr 38 (by decide) (by decide), hr 17 (by decide) (by decide)]
  · rw [hr 31 (by decide) (by decide), hr 16 (by decide) (by decide)]
  · rw [hr 31 (by decide) (by decide), hr 16 (by decide) (by decide)]
  · rw [hr 16 (by decide) (by decide)]; exact ⟨by decide, by decide, by decide⟩
  · rw [hm]; exact trivial
  · rw [hr 16 (by decide) (by decide)]; rfl
  · rw [hr 16 (by decide) (by decide)]
  · rw [hr 16 (by decide) (by decide)]
  · rw [hm]
    refine ⟨?_, fun i hi => ?_⟩
    · rw [hr 0 (by decide) (by decide)]; rfl
    · exact absurd hi (by simp [lg_cn])
  · rw [hr (19 + i) (by omega) (by omega), hr 2 (by decide) (by decide)]
    exact ⟨⟨by decide, by decide⟩, ⟨by decide, by decide, by decide⟩, Or.inl rfl, by decide, by decide⟩
  · rw [hr 31 (by decide) (by decide), hr 14 (by decide) (by decide)]
  · rw [hr 14 (by decide) (by decide)]; exact ⟨by decide, by decide⟩
  · rw [hr 14 (by decide) (by decide)] at hj
    have hj : (j : Int) < 0 := hj
    omega
  · rw [hr 43 (by decide) (by decide), hr 9 (by decide) (by decide), hr 12 (by decide) (by decide)]
    exact Or.inl ⟨rfl, rfl, rfl⟩
  · rw [hr 7 (by decide) (by decide), hr 9 (by decide) (by decide), cz_z]
  · rw [hr 10 (by decide) (by decide), hr 12 (by decide) (by decide), cz_z]
theorem lw_run (L : Nat) (xs : Nat → Int) (hL : L ≤ 2560) (hxs : ∀ j, mm_ir (xs j)) : lw_law L xs := lw_gen (RR := fun N => RL N N) hL hxs (fun N h a b c d _ _ _ _ => ⟨ok_0 h a b c d, ok_1 h a b c, ok_2 h a, ok_3 h a, ok_4 h a, ok_5 h a, ok_6 h a, ok_7 h a, ok_8 h a, ok_9 h a, ok_10 h a b, ok_11 h a, ok_12 h, ok_13 h a, ok_14 h, ok_15 h, ok_16 h a, ok_17 h a, ok_18 h a⟩) RL_0
