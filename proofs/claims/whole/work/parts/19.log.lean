/-! a log, read record by record (a row of numbers; m records of three) -/
def lg_cn (f : Nat → Int) : Nat → Int
  | 0 => 0
  | m + 1 => if f (3 * m) = 1 then lg_cn f m + 1 else lg_cn f m
def lg_k (f : Nat → Int) (s : Int) : Nat → Int
  | 0 => -1
  | m + 1 => if f (3 * m + 1) = s then (if f (3 * m) = 1 then f (3 * m + 2) else lg_k f s m) else lg_k f s m
def lg_d (f : Nat → Int) (s : Int) : Nat → Int
  | 0 => 0
  | m + 1 => if f (3 * m + 1) = s then (if f (3 * m) = 2 then lg_d f s m + 1 else lg_d f s m) else lg_d f s m
def lg_u (f : Nat → Int) (s : Int) : Nat → Int
  | 0 => 0
  | m + 1 => if f (3 * m + 1) = s then (if f (3 * m) = 4 then lg_u f s m + 1 else lg_u f s m) else lg_u f s m
def lg_r (f : Nat → Int) (s : Int) : Nat → Int
  | 0 => 0
  | m + 1 => if f (3 * m + 1) = s then (if lg_r f s m = 0 then (if f (3 * m) = 3 then 1 else 0) else 1) else lg_r f s m
def lg_e (f : Nat → Int) (s : Int) : Nat → Int
  | 0 => 0
  | m + 1 => if f (3 * m + 1) = s then 3 * (m : Int) + 3 else lg_e f s m
/-- how many records are the saga's -/
def lg_n (f : Nat → Int) (s : Int) : Nat → Int
  | 0 => 0
  | m + 1 => if f (3 * m + 1) = s then lg_n f s m + 1 else lg_n f s m
/-- record m is right behind the m records before it; c: how many steps a kind has -/
def lg_ok (c f : Nat → Int) (m : Nat) : Prop :=
  (f (3 * m) = 1 ∧ f (3 * m + 1) = lg_cn f m ∧ lg_cn f m < 12 ∧ 0 ≤ f (3 * m + 2) ∧ f (3 * m + 2) < 4 ∧ 1 ≤ c (f (3 * m + 2)).toNat) ∨
  ((f (3 * m) = 2 ∨ f (3 * m) = 3) ∧ 0 ≤ f (3 * m + 1) ∧ f (3 * m + 1) < lg_cn f m ∧ lg_r f (f (3 * m + 1)) m = 0 ∧ f (3 * m + 2) = lg_d f (f (3 * m + 1)) m ∧ lg_d f (f (3 * m + 1)) m < c (lg_k f (f (3 * m + 1)) m).toNat) ∨
  (f (3 * m) = 4 ∧ 0 ≤ f (3 * m + 1) ∧ f (3 * m + 1) < lg_cn f m ∧ lg_r f (f (3 * m + 1)) m = 1 ∧ lg_u f (f (3 * m + 1)) m < lg_d f (f (3 * m + 1)) m ∧ f (3 * m + 2) = lg_d f (f (3 * m + 1)) m - lg_u f (f (3 * m + 1)) m - 1)
def lg_va (c f : Nat → Int) : Nat → Prop
  | 0 => True
  | m + 1 => lg_va c f m ∧ lg_ok c f m
theorem lg_va_le {c f : Nat → Int} {n : Nat} : ∀ {m : Nat}, n ≤ m → lg_va c f m → lg_va c f n := by
  intro m h
  induction h with
  | refl => exact fun h => h
  | step _ ih => exact fun h => ih h.1
theorem lg_cn_0 (f : Nat → Int) : ∀ m : Nat, 0 ≤ lg_cn f m ∧ lg_cn f m ≤ m
  | 0 => by simp [lg_cn]
  | m + 1 => by
    have := lg_cn_0 f m
    unfold lg_cn
    split <;> omega
theorem lg_cn_mono (f : Nat → Int) {n : Nat} : ∀ {m : Nat}, n ≤ m → lg_cn f n ≤ lg_cn f m := by
  intro m h
  induction h with
  | refl => exact Int.le_refl _
  | @step m _ ih =>
    have : lg_cn f m ≤ lg_cn f (m + 1) := by
      show lg_cn f m ≤ if f (3 * m) = 1 then lg_cn f m + 1 else lg_cn f m
      split <;> omega
    exact Int.le_trans ih this
theorem lg_cn_12 {c f : Nat → Int} : ∀ {m : Nat}, lg_va c f m → lg_cn f m ≤ 12
  | 0, _ => by simp [lg_cn]
  | m + 1, h => by
    have ih := lg_cn_12 h.1
    unfold lg_cn
    split
    · rename_i h1
      rcases h.2 with h2 | h2 | h2
      · omega
      · rcases h2.1 with h3 | h3 <;> omega
      · omega
    · exact ih
/-- a saga that is not there has no record -/
theorem lg_none {c f : Nat → Int} {s : Int} : ∀ {m : Nat}, lg_va c f m → (s < 0 ∨ lg_cn f m ≤ s) → lg_k f s m = -1 ∧ lg_d f s m = 0 ∧ lg_u f s m = 0 ∧ lg_r f s m = 0 ∧ lg_e f s m = 0 ∧ lg_n f s m = 0
  | 0, _, _ => ⟨rfl, rfl, rfl, rfl, rfl, rfl⟩
  | m + 1, h, hs => by
    have h0 := lg_cn_0 f m
    have hm : lg_cn f m ≤ lg_cn f (m + 1) := lg_cn_mono f (Nat.le_succ m)
    have ih := lg_none (s := s) (m := m) h.1 (by omega)
    have hne : ¬ f (3 * m + 1) = s := by
      intro he
      rcases h.2 with h2 | h2 | h2
      · have : lg_cn f (m + 1) = lg_cn f m + 1 := by
          show (if f (3 * m) = 1 then lg_cn f m + 1 else lg_cn f m) = _
          rw [if_pos h2.1]
        omega
      · omega
      · omega
    unfold lg_k lg_d lg_u lg_r lg_e lg_n
    simp only [if_neg hne]
    exact ih
/-- what is true of a saga that is there -/
def lg_fit (c f : Nat → Int) (s : Int) (m : Nat) : Prop :=
  (0 ≤ lg_k f s m ∧ lg_k f s m < 4 ∧ 1 ≤ c (lg_k f s m).toNat) ∧ (0 ≤ lg_u f s m ∧ lg_u f s m ≤ lg_d f s m ∧ lg_d f s m ≤ c (lg_k f s m).toNat) ∧ ((lg_r f s m = 0 ∧ lg_u f s m = 0) ∨ (lg_r f s m = 1 ∧ lg_d f s m < c (lg_k f s m).toNat)) ∧ (3 ≤ lg_e f s m ∧ lg_e f s m ≤ 3 * (m : Int) ∧ lg_e f s m % 3 = 0) ∧ lg_n f s m = 1 + lg_d f s m + lg_r f s m + lg_u f s m
theorem lg_some {c f : Nat → Int} {s : Int} (h0s : 0 ≤ s) : ∀ {m : Nat}, lg_va c f m → s < lg_cn f m → lg_fit c f s m
  | 0, _, hs => by simp [lg_cn] at hs; omega
  | m + 1, h, hs => by
    have h0 := lg_cn_0 f m
    by_cases he : f (3 * m + 1) = s
    · unfold lg_fit lg_k lg_d lg_u lg_r lg_e lg_n
      simp only [if_pos he]
      rcases h.2 with h2 | h2 | h2
      · have hn := lg_none (s := s) (m := m) h.1 (Or.inr (by omega))
        obtain ⟨n1, n2, n3, n4, n5, n6⟩ := hn
        obtain ⟨g1, g2, g3, g4, g5, g6⟩ := h2
        rw [n2, n3, n4, n6]
        simp only [g1]
        refine ⟨⟨by simpa using g4, by simpa using g5, by simpa using g6⟩, ⟨by simp, by simp, ?_⟩, by simp, by omega, by simp⟩
        simp
        omega
      · obtain ⟨g1, g2, g3, g4, g5, g6⟩ := h2
        rw [he] at g2 g3 g4 g5 g6
        have ih := lg_some h0s (m := m) h.1 (by omega)
        obtain ⟨i1, i2, i3, i4, i5⟩ := ih
        have hu : lg_u f s m = 0 := by omega
        rcases g1 with g1 | g1
        · simp only [g1, g4]
          simp
          refine ⟨i1, ⟨by omega, by omega, by omega⟩, by omega, by omega, by omega⟩
        · simp only [g1, g4]
          simp
          refine ⟨i1, ⟨by omega, by omega, by omega⟩, by omega, by omega, by omega⟩
      · obtain ⟨g1, g2, g3, g4, g5, g6⟩ := h2
        rw [he] at g2 g3 g4 g5 g6
        have ih := lg_some h0s (m := m) h.1 (by omega)
        obtain ⟨i1, i2, i3, i4, i5⟩ := ih
        simp only [g1, g4]
        simp
        refine ⟨i1, ⟨by omega, by omega, by omega⟩, by omega, by omega, by omega⟩
    · have hs2 : s < lg_cn f m := by
        rcases h.2 with h2 | h2 | h2
        · have : lg_cn f (m + 1) = lg_cn f m + 1 := by
            show (if f (3 * m) = 1 then lg_cn f m + 1 else lg_cn f m) = _
            rw [if_pos h2.1]
          omega
        · have : lg_cn f (m + 1) = lg_cn f m := by
            show (if f (3 * m) = 1 then lg_cn f m + 1 else lg_cn f m) = _
            rw [if_neg (by rcases h2.1 with h3 | h3 <;> omega)]
          omega
        · have : lg_cn f (m + 1) = lg_cn f m := by
            show (if f (3 * m) = 1 then lg_cn f m + 1 else lg_cn f m) = _
            rw [if_neg (by omega)]
          omega
      have ih := lg_some h0s (m := m) h.1 hs2
      obtain ⟨i1, i2, i3, i4, i5⟩ := ih
      unfold lg_fit lg_k lg_d lg_u lg_r lg_e lg_n
      simp only [if_neg he]
      exact ⟨i1, i2, i3, by omega, i5⟩
/-- a saga's kind doesn't change -/
theorem lg_k_keep {c f : Nat → Int} {s : Int} (h0s : 0 ≤ s) {n : Nat} (hs : s < lg_cn f n) : ∀ {m : Nat}, n ≤ m → lg_va c f m → lg_k f s m = lg_k f s n := by
  intro m h
  induction h with
  | refl => exact fun _ => rfl
  | @step m hm ih =>
    intro hv
    have h1 := ih hv.1
    rw [← h1]
    have h2 := lg_cn_mono f hm
    show (if f (3 * m + 1) = s then (if f (3 * m) = 1 then f (3 * m + 2) else lg_k f s m) else lg_k f s m) = lg_k f s m
    by_cases he : f (3 * m + 1) = s
    · rw [if_pos he]
      by_cases h3 : f (3 * m) = 1
      · rcases hv.2 with g | g | g
        · omega
        · rcases g.1 with g1 | g1 <;> omega
        · omega
      · rw [if_neg h3]
    · rw [if_neg he]
/-- two logs that begin alike -/
theorem lg_like {f g : Nat → Int} : ∀ {m : Nat}, (∀ j, j < 3 * m → f j = g j) → lg_cn f m = lg_cn g m ∧ ∀ s, lg_k f s m = lg_k g s m ∧ lg_d f s m = lg_d g s m ∧ lg_u f s m = lg_u g s m ∧ lg_r f s m = lg_r g s m ∧ lg_e f s m = lg_e g s m ∧ lg_n f s m = lg_n g s m
  | 0, _ => ⟨rfl, fun _ => ⟨rfl, rfl, rfl, rfl, rfl, rfl⟩⟩
  | m + 1, h => by
    obtain ⟨i1, i2⟩ := lg_like (f := f) (g := g) (m := m) (fun j hj => h j (by omega))
    have a0 := h (3 * m) (by omega)
    have a1 := h (3 * m + 1) (by omega)
    have a2 := h (3 * m + 2) (by omega)
    refine ⟨?_, fun s => ?_⟩
    · unfold lg_cn
      rw [a0, i1]
    · obtain ⟨j1, j2, j3, j4, j5, j6⟩ := i2 s
      unfold lg_k lg_d lg_u lg_r lg_e lg_n
      rw [a0, a1, a2, j1, j2, j3, j4, j5, j6]
      exact ⟨rfl, rfl, rfl, rfl, rfl, rfl⟩
theorem lg_va_like {c f g : Nat → Int} : ∀ {m : Nat}, (∀ j, j < 3 * m → f j = g j) → lg_va c f m → lg_va c g m
  | 0, _, _ => trivial
  | m + 1, h, hv => by
    obtain ⟨i1, i2⟩ := lg_like (f := f) (g := g) (m := m) (fun j hj => h j (by omega))
    have a0 := h (3 * m) (by omega)
    have a1 := h (3 * m + 1) (by omega)
    have a2 := h (3 * m + 2) (by omega)
    refine ⟨lg_va_like (fun j hj => h j (by omega)) hv.1, ?_⟩
    have hk := hv.2
    unfold lg_ok at hk ⊢
    obtain ⟨j1, j2, j3, j4, j5, j6⟩ := i2 (f (3 * m + 1))
    rw [a1] at j1 j2 j3 j4
    rw [a0, a1, a2, i1, j1, j2, j3, j4] at hk
    exact hk
/-- the records are the sagas' -/
theorem lg_sum {c f : Nat → Int} : ∀ {m : Nat}, lg_va c f m → lg_n f 0 m + lg_n f 1 m + lg_n f 2 m + lg_n f 3 m + lg_n f 4 m + lg_n f 5 m + lg_n f 6 m + lg_n f 7 m + lg_n f 8 m + lg_n f 9 m + lg_n f 10 m + lg_n f 11 m = m
  | 0, _ => by simp [lg_n]
  | m + 1, h => by
    have ih := lg_sum h.1
    have h12 := lg_cn_12 h.1
    have h0 := lg_cn_0 f m
    have hr : 0 ≤ f (3 * m + 1) ∧ f (3 * m + 1) < 12 := by
      rcases h.2 with g | g | g <;> omega
    unfold lg_n
    have hc : f (3 * m + 1) = 0 ∨ f (3 * m + 1) = 1 ∨ f (3 * m + 1) = 2 ∨ f (3 * m + 1) = 3 ∨ f (3 * m + 1) = 4 ∨ f (3 * m + 1) = 5 ∨ f (3 * m + 1) = 6 ∨ f (3 * m + 1) = 7 ∨ f (3 * m + 1) = 8 ∨ f (3 * m + 1) = 9 ∨ f (3 * m + 1) = 10 ∨ f (3 * m + 1) = 11 := by omega
    rcases hc with hc | hc | hc | hc | hc | hc | hc | hc | hc | hc | hc | hc <;> rw [hc] <;> simp <;> omega
theorem lg_n_8 {c f : Nat → Int} {m : Nat} (hc : ∀ k, k < 4 → c k ≤ 4) (h : lg_va c f m) (s : Int) (hs : 0 ≤ s) : lg_n f s m ≤ 8 := by
  by_cases h1 : s < lg_cn f m
  · obtain ⟨i1, i2, i3, i4, i5⟩ := lg_some hs h h1
    have := hc (lg_k f s m).toNat (by omega)
    omega
  · have := (lg_none (s := s) h (Or.inr (by omega))).2.2.2.2.2
    omega
/-- there is room for every right record -/
theorem lg_96 {c f : Nat → Int} {m : Nat} (hc : ∀ k, k < 4 → c k ≤ 4) (h : lg_va c f m) : m ≤ 96 := by
  have h1 := lg_sum h
  have g := lg_n_8 hc h
  have g0 := g 0 (by omega)
  have g1 := g 1 (by omega)
  have g2 := g 2 (by omega)
  have g3 := g 3 (by omega)
  have g4 := g 4 (by omega)
  have g5 := g 5 (by omega)
  have g6 := g 6 (by omega)
  have g7 := g 7 (by omega)
  have g8 := g 8 (by omega)
  have g9 := g 9 (by omega)
  have g10 := g 10 (by omega)
  have g11 := g 11 (by omega)
  omega
