/-! the small machine's steps where a reference is a variable; arithmetic without wrapping -/
section MMX
variable {pf : Nat → List (Option (Option Nat))} {bd : Nat → Nat × Nat} {L : Nat} {xs : Nat → Int} {pr : Nat → mm_M} {d : Nat} {M : mm_M} {Q : mm_Q}
theorem mm_start {y : Nat} {as : List mm_V} {sh : List mm_S} {N : mm_N} (h : pr y = M) (w : mm_Wp pf bd L xs (mm_Cl pf bd L xs pr d) M Q (0, mm_ent 0 as, [], sh, N, 0, 0)) : mm_Cl pf bd L xs pr (d + 1) y as sh N Q := by
  show mm_Wp pf bd L xs (mm_Cl pf bd L xs pr d) (pr y) Q (0, mm_ent 0 as, [], sh, N, 0, 0)
  rw [h]
  exact w
variable {pc nx a b c i0 ce sl q : Nat} {ps : List Nat} {lv : List (Nat × mm_V)} {t : List mm_V} {sh : List mm_S} {N : mm_N} {fs : List (Option (Option Nat))} {Y : mm_X}
theorem mm_pl (h : mm_step pf bd L xs M (pc, lv, t, sh, N, ce, sl) = some (.inl Y)) (w : mm_Wp pf bd L xs (mm_Cl pf bd L xs pr d) M Q Y) : mm_Wp pf bd L xs (mm_Cl pf bd L xs pr d) M Q (pc, lv, t, sh, N, ce, sl) := by
  refine mm_in ?_
  unfold mm_Step
  rw [h]
  exact w
theorem mm_gf (hf : mm_fetch M.2.2.2.2.1 pc = some (.getfield i0, nx, a, b, c, ps)) (hq : sh[q]? = some (0, a, fs)) (hb : fs[b]? = some none) (hY : (nx, lv, Sum.inl (N q b) :: t, sh, N, ce, sl) = Y) (w : mm_Wp pf bd L xs (mm_Cl pf bd L xs pr d) M Q Y) : mm_Wp pf bd L xs (mm_Cl pf bd L xs pr d) M Q (pc, lv, .inr (some q) :: t, sh, N, ce, sl) := by
  subst hY
  refine mm_pl ?_ w
  simp only [mm_step, hf, mm_get, hq, mm_beq_self, cond_true, hb]
theorem mm_gr {r : Option Nat} (hf : mm_fetch M.2.2.2.2.1 pc = some (.getfield i0, nx, a, b, c, ps)) (hq : sh[q]? = some (0, a, fs)) (hb : fs[b]? = some (some r)) (hY : (nx, lv, Sum.inr r :: t, sh, N, ce, sl) = Y) (w : mm_Wp pf bd L xs (mm_Cl pf bd L xs pr d) M Q Y) : mm_Wp pf bd L xs (mm_Cl pf bd L xs pr d) M Q (pc, lv, .inr (some q) :: t, sh, N, ce, sl) := by
  subst hY
  refine mm_pl ?_ w
  simp only [mm_step, hf, mm_get, hq, mm_beq_self, cond_true, hb]
theorem mm_pt0 {z : Int} (hf : mm_fetch M.2.2.2.2.1 pc = some (.putfield i0, nx, a, b, 0, ps)) (hq : sh[q]? = some (0, a, fs)) (hb : fs[b]? = some none) (hY : (nx, lv, t, sh, mm_f2 N q b z, ce, sl) = Y) (w : mm_Wp pf bd L xs (mm_Cl pf bd L xs pr d) M Q Y) : mm_Wp pf bd L xs (mm_Cl pf bd L xs pr d) M Q (pc, lv, .inl z :: .inr (some q) :: t, sh, N, ce, sl) := by
  subst hY
  refine mm_pl ?_ w
  simp only [mm_step, hf, hq, mm_beq_self, cond_true, hb]
theorem mm_pt1 {z : Int} (hf : mm_fetch M.2.2.2.2.1 pc = some (.putfield i0, nx, a, b, 1, ps)) (hq : sh[q]? = some (0, a, fs)) (hb : fs[b]? = some none) (hz : z = 0 ∨ z = 1) (hY : (nx, lv, t, sh, mm_f2 N q b z, ce, sl) = Y) (w : mm_Wp pf bd L xs (mm_Cl pf bd L xs pr d) M Q Y) : mm_Wp pf bd L xs (mm_Cl pf bd L xs pr d) M Q (pc, lv, .inl z :: .inr (some q) :: t, sh, N, ce, sl) := by
  subst hY
  refine mm_cd (g := z = 0 ∨ z = 1) ?_ hz w
  have h10 : Nat.beq 1 0 = false := rfl
  simp only [mm_step, hf, hq, mm_beq_self, cond_true, hb, h10, cond_false]
theorem mm_il {i : Int} {n : Nat} (hf : mm_fetch M.2.2.2.2.1 pc = some (.iaload, nx, a, b, c, ps)) (hq : sh[q]? = some (1, n, fs)) (hi : 0 ≤ i ∧ i < (n : Int)) (hY : (nx, lv, Sum.inl (N q i.toNat) :: t, sh, N, ce, sl) = Y) (w : mm_Wp pf bd L xs (mm_Cl pf bd L xs pr d) M Q Y) : mm_Wp pf bd L xs (mm_Cl pf bd L xs pr d) M Q (pc, lv, .inl i :: .inr (some q) :: t, sh, N, ce, sl) := by
  subst hY
  refine mm_cd (g := 0 ≤ i ∧ i < (n : Int)) ?_ hi w
  simp only [mm_step, hf, hq]
theorem mm_is {i z : Int} {n : Nat} (hf : mm_fetch M.2.2.2.2.1 pc = some (.iastore, nx, a, b, c, ps)) (hq : sh[q]? = some (1, n, fs)) (hi : 0 ≤ i ∧ i < (n : Int)) (hY : (nx, lv, t, sh, mm_f2 N q i.toNat z, ce, sl) = Y) (w : mm_Wp pf bd L xs (mm_Cl pf bd L xs pr d) M Q Y) : mm_Wp pf bd L xs (mm_Cl pf bd L xs pr d) M Q (pc, lv, .inl z :: .inl i :: .inr (some q) :: t, sh, N, ce, sl) := by
  subst hY
  refine mm_cd (g := 0 ≤ i ∧ i < (n : Int)) ?_ hi w
  simp only [mm_step, hf, hq]
theorem mm_al {i : Int} {n k r : Nat} (hf : mm_fetch M.2.2.2.2.1 pc = some (.aaload, nx, a, b, c, ps)) (hq : sh[q]? = some (k + 3, n, fs)) (hk : k < 2) (hi : 0 ≤ i ∧ i < (n : Int)) (hr : fs[i.toNat]? = some (some (some r))) (hY : (nx, lv, Sum.inr (some r) :: t, sh, N, ce, sl) = Y) (w : mm_Wp pf bd L xs (mm_Cl pf bd L xs pr d) M Q Y) : mm_Wp pf bd L xs (mm_Cl pf bd L xs pr d) M Q (pc, lv, .inl i :: .inr (some q) :: t, sh, N, ce, sl) := by
  subst hY
  have hgd : (fs.getD i.toNat none).getD none = some r := by rw [List.getD_eq_getElem?_getD, hr]; rfl
  refine mm_cd (g := k < 2 ∧ 0 ≤ i ∧ i < (n : Int) ∧ ∃ r, fs[i.toNat]? = some (some (some r))) (Y := (nx, lv, Sum.inr ((fs.getD i.toNat none).getD none) :: t, sh, N, ce, sl)) ?_ ⟨hk, hi.1, hi.2, r, hr⟩ (by rw [hgd]; exact w)
  simp only [mm_step, hf, hq]
theorem mm_tdiv {x n : Int} (h1 : 0 ≤ x) (h2 : x < 2147483648) (hn : 0 < n) : mm_wr (x.tdiv n) = x / n := by
  rw [Int.tdiv_eq_ediv_of_nonneg h1]
  have h3 : x / n ≤ x := Int.ediv_le_self n h1
  have h4 : 0 ≤ x / n := Int.ediv_nonneg h1 (Int.le_of_lt hn)
  exact mm_wr_id (by omega) (by omega)
theorem mm_tmod {x n : Int} (h1 : 0 ≤ x) (h2 : x < 2147483648) (hn : 0 < n) : mm_wr (x.tmod n) = x % n := by
  rw [Int.tmod_eq_emod_of_nonneg h1]
  have h5 : 0 ≤ x / n := Int.ediv_nonneg h1 (Int.le_of_lt hn)
  have h6 : 0 ≤ n * (x / n) := Int.mul_nonneg (Int.le_of_lt hn) h5
  have h7 := Int.mul_ediv_add_emod x n
  have h4 : 0 ≤ x % n := Int.emod_nonneg x (by omega)
  exact mm_wr_id (by omega) (by omega)
end MMX
