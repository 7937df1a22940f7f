theorem mm_get_of {sh : List mm_S} {N : mm_N} {a b q : Nat} {v : mm_V} (h : mm_get sh N a b q = some v) : ∃ (fs : List (Option (Option Nat))) (f : Option (Option Nat)), sh[q]? = some (0, a, fs) ∧ fs[b]? = some f ∧ v = mm_fo (N q b) f := by
  unfold mm_get at h
  cases hq : sh[q]? with
  | none => simp only [hq] at h; cases h
  | some s0 =>
    simp only [hq] at h
    obtain ⟨t0, ci, fs⟩ := s0
    rcases t0 with _ | t0
    · try dsimp only at h
      cases hca : Nat.beq ci a with
      | false => simp only [hca, cond_false] at h; cases h
      | true =>
        simp only [hca, cond_true] at h
        have hca := Nat.eq_of_beq_eq_true hca
        subst hca
        cases hfb : fs[b]? with
        | none => simp only [hfb] at h; cases h
        | some f0 =>
          simp only [hfb] at h
          refine ⟨fs, f0, rfl, hfb, ?_⟩
          rcases f0 with _ | f0
          · exact (Option.some.inj h).symm
          · exact (Option.some.inj h).symm
    · cases h
theorem mm_isR_of {t : FieldType} (h : mm_isR t = true) : (∃ C, t = .object C) ∨ ∃ C, t = .array C := by
  cases t with
  | object C => exact Or.inl ⟨C, rfl⟩
  | array C => exact Or.inr ⟨C, rfl⟩
  | _ => cases h
theorem mm_sl_len {h0 b0 : Nat} : ∀ (vs : List mm_V), (lg_sl (vs.map (mm_v h0 b0))).length = vs.length
  | [] => rfl
  | v :: t => by
    have ih := mm_sl_len (h0 := h0) (b0 := b0) t
    rcases v with z | (_ | q) <;> simp [lg_sl, mm_v, Value.category] at ih ⊢ <;> omega
/-! every step of the small machine is a step of the machine -/
section MMR
variable {l : Launch} {WS : List Cond} {cl : List vw_C} {NW : mm_NW} {D : va_G} {cT : Nat → ClassId} {h0 b0 L : Nat} {xs : Nat → Int}
variable {pr : Nat → mm_M} {np : Nat} {pf : Nat → List (Option (Option Nat))} {bd : Nat → Nat × Nat} {ft : Nat → Nat → FieldType} {d : Nat} {M : mm_M} {Q : mm_Q}
set_option maxHeartbeats 4000000 in
theorem mm_clo (hC0 : mm_okC pf WS cl ft) (hG : GoodIn WS WS) (hcd : ∀ y, y < np → Cond.code (pr y).1 (pr y).2.1 (pr y).2.2.1 (pr y).2.2.2.1 ∈ WS) (hxs : ∀ j, mm_ir (xs j)) (hL : mm_ir (L : Int)) (hM : mm_okM pr np bd WS cl ft NW M = true)
    (hIH : ∀ (y : Nat) (as : List mm_V) (sh : List mm_S) (N : mm_N) (Qm : mm_Q), y < np → mm_Cl pf bd L xs pr d y as sh N Qm → as.length ≤ (pr y).2.2.1 → mm_ivs as → (∀ a b, mm_ir (N a b)) → sh.length ≤ 900 → ∃ d', d = d' + 1 ∧ mm_Met l WS cl NW D cT h0 b0 L xs d' (pr y) Qm as sh N)
    (X : mm_X) (hS : mm_Step pf bd L xs (mm_Cl pf bd L xs pr d) M X (mm_G l WS cl NW D cT h0 b0 L xs d M Q) Q) : mm_G l WS cl NW D cT h0 b0 L xs d M Q X := by
  obtain ⟨pc, lv, st, sh, N, ce, sl⟩ := X
  unfold mm_Step mm_step at hS
  cases hf : mm_fetch M.2.2.2.2.1 pc with
  | none => simp only [hf] at hS
  | some en =>
    obtain ⟨ins, nx, a, b, c, ps⟩ := en
    simp only [hf] at hS
    have hI0 : mm_okI pr np bd WS cl ft NW M (pc, ins, nx, a, b, c, ps) = true := List.all_eq_true.mp (mm_a2 hM).2 _ (mm_fetch_mem hf)
    obtain ⟨hnx, hI⟩ := mm_a2 hI0
    clear hI0
    have hnx := of_decide_eq_true hnx
    subst hnx
    cases ins
    case iconst n =>
      have hI : (mm_dc M pc (.iconst n) 1 && decide (mm_wr n = n)) = true := hI
      exact mm_s_iconst (mm_dc_of (mm_a2 hI).1) (show mm_wr n = n from of_decide_eq_true (mm_a2 hI).2) hS
    case bipush n =>
      have hI : (mm_dc M pc (.bipush n) 2 && (decide (mm_wr n = n) && decide ((Int8.ofInt n).toInt32 = Int32.ofInt n))) = true := hI
      exact mm_s_bipush (mm_dc_of (mm_a2 hI).1) (show mm_wr n = n from of_decide_eq_true (mm_a2 (mm_a2 hI).2).1) (of_decide_eq_true (mm_a2 (mm_a2 hI).2).2) hS
    case sipush n =>
      have hI : (mm_dc M pc (.sipush n) 3 && (decide (mm_wr n = n) && decide ((Int16.ofInt n).toInt32 = Int32.ofInt n))) = true := hI
      exact mm_s_sipush (mm_dc_of (mm_a2 hI).1) (show mm_wr n = n from of_decide_eq_true (mm_a2 (mm_a2 hI).2).1) (of_decide_eq_true (mm_a2 (mm_a2 hI).2).2) hS
    case iload_n k =>
      have hI : mm_dc M pc (.iload_n k) 1 = true := hI
      cases hk : mm_lk lv k.val with
      | none => simp only [hk] at hS
      | some v =>
        simp only [hk] at hS
        rcases v with z | z
        · exact mm_s_iload_n (mm_dc_of hI) hk hS
        · exact (show False from hS).elim
    case iload k =>
      have hI : mm_dc M pc (.iload k) 2 = true := hI
      cases hk : mm_lk lv k with
      | none => simp only [hk] at hS
      | some v =>
        simp only [hk] at hS
        rcases v with z | z
        · exact mm_s_iload (mm_dc_of hI) hk hS
        · exact (show False from hS).elim
    case aload_n k =>
      have hI : mm_dc M pc (.aload_n k) 1 = true := hI
      cases hk : mm_lk lv k.val with
      | none => simp only [hk] at hS
      | some v =>
        simp only [hk] at hS
        rcases v with z | (_ | q)
        · exact (show False from hS).elim
        · exact (show False from hS).elim
        · exact mm_s_aload_n (mm_dc_of hI) hk hS
    case aload k =>
      have hI : mm_dc M pc (.aload k) 2 = true := hI
      cases hk : mm_lk lv k with
      | none => simp only [hk] at hS
      | some v =>
        simp only [hk] at hS
        rcases v with z | (_ | q)
        · exact (show False from hS).elim
        · exact (show False from hS).elim
        · exact mm_s_aload (mm_dc_of hI) hk hS
    case istore_n k =>
      have hI : (mm_dc M pc (.istore_n k) 1 && decide (k.val < M.2.2.1)) = true := hI
      rcases st with _ | ⟨z | z, t⟩
      · exact (show False from hS).elim
      · exact mm_s_istore_n (mm_dc_of (mm_a2 hI).1) (of_decide_eq_true (mm_a2 hI).2) hS
      · exact (show False from hS).elim
    case istore k =>
      have hI : (mm_dc M pc (.istore k) 2 && decide (k < M.2.2.1)) = true := hI
      rcases st with _ | ⟨z | z, t⟩
      · exact (show False from hS).elim
      · exact mm_s_istore (mm_dc_of (mm_a2 hI).1) (of_decide_eq_true (mm_a2 hI).2) hS
      · exact (show False from hS).elim
    case astore_n k =>
      have hI : (mm_dc M pc (.astore_n k) 1 && decide (k.val < M.2.2.1)) = true := hI
      rcases st with _ | ⟨z | (_ | q), t⟩
      · exact (show False from hS).elim
      · exact (show False from hS).elim
      · exact (show False from hS).elim
      · exact mm_s_astore_n (mm_dc_of (mm_a2 hI).1) (of_decide_eq_true (mm_a2 hI).2) hS
    case astore k =>
      have hI : (mm_dc M pc (.astore k) 2 && decide (k < M.2.2.1)) = true := hI
      rcases st with _ | ⟨z | (_ | q), t⟩
      · exact (show False from hS).elim
      · exact (show False from hS).elim
      · exact (show False from hS).elim
      · exact mm_s_astore (mm_dc_of (mm_a2 hI).1) (of_decide_eq_true (mm_a2 hI).2) hS
    case iinc k n =>
      have hI : (mm_dc M pc (.iinc k n) 3 && decide (k < M.2.2.1)) = true := hI
      cases hk : mm_lk lv k with
      | none => simp only [hk] at hS
      | some v =>
        simp only [hk] at hS
        rcases v with z | z
        · exact mm_s_iinc (mm_dc_of (mm_a2 hI).1) (of_decide_eq_true (mm_a2 hI).2) hk hS
        · exact (show False from hS).elim
    case iadd =>
      have hI : mm_dc M pc .iadd 1 = true := hI
      rcases st with _ | ⟨y | y, _ | ⟨x | x, t⟩⟩
      · exact (show False from hS).elim
      · exact (show False from hS).elim
      · exact mm_s_iadd (mm_dc_of hI) hS
      · exact (show False from hS).elim
      · exact (show False from hS).elim
      · exact (show False from hS).elim
      · exact (show False from hS).elim
    case isub =>
      have hI : mm_dc M pc .isub 1 = true := hI
      rcases st with _ | ⟨y | y, _ | ⟨x | x, t⟩⟩
      · exact (show False from hS).elim
      · exact (show False from hS).elim
      · exact mm_s_isub (mm_dc_of hI) hS
      · exact (show False from hS).elim
      · exact (show False from hS).elim
      · exact (show False from hS).elim
      · exact (show False from hS).elim
    case imul =>
      have hI : mm_dc M pc .imul 1 = true := hI
      rcases st with _ | ⟨y | y, _ | ⟨x | x, t⟩⟩
      · exact (show False from hS).elim
      · exact (show False from hS).elim
      · exact mm_s_imul (mm_dc_of hI) hS
      · exact (show False from hS).elim
      · exact (show False from hS).elim
      · exact (show False from hS).elim
      · exact (show False from hS).elim
    case iand =>
      have hI : mm_dc M pc .iand 1 = true := hI
      rcases st with _ | ⟨y | y, _ | ⟨x | x, t⟩⟩
      · exact (show False from hS).elim
      · exact (show False from hS).elim
      · exact mm_s_iand (mm_dc_of hI) hS
      · exact (show False from hS).elim
      · exact (show False from hS).elim
      · exact (show False from hS).elim
      · exact (show False from hS).elim
    case idiv =>
      have hI : mm_dc M pc .idiv 1 = true := hI
      rcases st with _ | ⟨y | y, _ | ⟨x | x, t⟩⟩
      · exact (show False from hS).elim
      · exact (show False from hS).elim
      · exact mm_s_idiv (mm_dc_of hI) hS.1 hS.2
      · exact (show False from hS).elim
      · exact (show False from hS).elim
      · exact (show False from hS).elim
      · exact (show False from hS).elim
    case irem =>
      have hI : mm_dc M pc .irem 1 = true := hI
      rcases st with _ | ⟨y | y, _ | ⟨x | x, t⟩⟩
      · exact (show False from hS).elim
      · exact (show False from hS).elim
      · exact mm_s_irem (mm_dc_of hI) hS.1 hS.2
      · exact (show False from hS).elim
      · exact (show False from hS).elim
      · exact (show False from hS).elim
      · exact (show False from hS).elim
    case ineg =>
      have hI : mm_dc M pc .ineg 1 = true := hI
      rcases st with _ | ⟨z | z, t⟩
      · exact (show False from hS).elim
      · exact mm_s_ineg (mm_dc_of hI) hS
      · exact (show False from hS).elim
    case dup =>
      have hI : mm_dc M pc .dup 1 = true := hI
      rcases st with _ | ⟨z, t⟩
      · exact (show False from hS).elim
      · exact mm_s_dup (mm_dc_of hI) hS
    case pop =>
      have hI : mm_dc M pc .pop 1 = true := hI
      rcases st with _ | ⟨z, t⟩
      · exact (show False from hS).elim
      · exact mm_s_pop (mm_dc_of hI) hS
    case dup2 =>
      have hI : mm_dc M pc .dup2 1 = true := hI
      rcases st with _ | ⟨z, _ | ⟨y, t⟩⟩
      · exact (show False from hS).elim
      · exact (show False from hS).elim
      · exact mm_s_dup2 (mm_dc_of hI) hS
    case goto off =>
      have hI : (mm_dc M pc (.goto off) 3 && decide ((pc : Int) + off = (a : Int))) = true := hI
      exact mm_s_goto (mm_dc_of (mm_a2 hI).1) (of_decide_eq_true (mm_a2 hI).2) hS
    case ifCond cnd off =>
      have hI : (mm_dc M pc (.ifCond cnd off) 3 && decide ((pc : Int) + off = (a : Int))) = true := hI
      have h1 := mm_dc_of (mm_a2 hI).1
      have h2 : (pc : Int) + off = (a : Int) := of_decide_eq_true (mm_a2 hI).2
      rcases st with _ | ⟨x | x, t⟩
      · exact (show False from hS).elim
      · cases cnd
        · exact mm_s_if_eq h1 h2 hS
        · exact mm_s_if_ne h1 h2 hS
        · exact mm_s_if_lt h1 h2 hS
        · exact mm_s_if_ge h1 h2 hS
        · exact mm_s_if_gt h1 h2 hS
        · exact mm_s_if_le h1 h2 hS
      · exact (show False from hS).elim
    case if_icmp cnd off =>
      have hI : (mm_dc M pc (.if_icmp cnd off) 3 && decide ((pc : Int) + off = (a : Int))) = true := hI
      have h1 := mm_dc_of (mm_a2 hI).1
      have h2 : (pc : Int) + off = (a : Int) := of_decide_eq_true (mm_a2 hI).2
      rcases st with _ | ⟨y | y, _ | ⟨x | x, t⟩⟩
      · exact (show False from hS).elim
      · exact (show False from hS).elim
      · cases cnd
        · exact mm_s_icmp_eq h1 h2 hS
        · exact mm_s_icmp_ne h1 h2 hS
        · exact mm_s_icmp_lt h1 h2 hS
        · exact mm_s_icmp_ge h1 h2 hS
        · exact mm_s_icmp_gt h1 h2 hS
        · exact mm_s_icmp_le h1 h2 hS
      · exact (show False from hS).elim
      · exact (show False from hS).elim
      · exact (show False from hS).elim
      · exact (show False from hS).elim
    case tableswitch dflt lo hi offs =>
      have hI : (mm_dc M pc (.tableswitch dflt lo hi offs) c && (decide (0 ≤ (pc : Int) + dflt) && (decide (hi - lo < (offs.size : Int)) && offs.toList.all (fun o => decide (0 ≤ (pc : Int) + o))))) = true := hI
      obtain ⟨h1, hI⟩ := mm_a2 hI
      obtain ⟨h2, hI⟩ := mm_a2 hI
      obtain ⟨h3, h4⟩ := mm_a2 hI
      rcases st with _ | ⟨x | x, t⟩
      · exact (show False from hS).elim
      · exact mm_s_switch (mm_dc_of h1) (of_decide_eq_true h2) (of_decide_eq_true h3) (fun o ho => of_decide_eq_true (List.all_eq_true.mp h4 o ho)) hS
      · exact (show False from hS).elim
    case getfield idx =>
      have hI : (mm_dc M pc (.getfield idx) 3 && mm_oG WS cl M idx a b ps) = true := hI
      obtain ⟨h1, h2⟩ := mm_a2 hI
      obtain ⟨r, g1, g2, g3⟩ := mm_oG_of h2
      rcases st with _ | ⟨x | (_ | q), t⟩
      · exact (show False from hS).elim
      · exact (show False from hS).elim
      · exact (show False from hS).elim
      · dsimp only at hS
        cases hg : mm_get sh N a b q with
        | none => simp only [hg] at hS
        | some v =>
          simp only [hg] at hS
          obtain ⟨fs, f, e1, e2, e3⟩ := mm_get_of hg
          exact mm_s_getfield (mm_dc_of h1) g1 (hC0.2.2 a r g1).1 g2 g3 e1 e2 e3 hS
    case putfield idx =>
      have hI : (mm_dc M pc (.putfield idx) 3 && (mm_oG WS cl M idx a b ps && mm_oP cl ft M a b c)) = true := hI
      obtain ⟨h1, hI⟩ := mm_a2 hI
      obtain ⟨h2, h3⟩ := mm_a2 hI
      obtain ⟨r, g1, g2, g3⟩ := mm_oG_of h2
      unfold mm_oP at h3
      rw [g1] at h3
      obtain ⟨k1, k2, k3, k4, k5⟩ := hC0.2.2 a r g1
      rcases st with _ | ⟨z | (_ | o), _ | ⟨x | (_ | q), t⟩⟩
      · exact (show False from hS).elim
      · exact (show False from hS).elim
      · exact (show False from hS).elim
      · exact (show False from hS).elim
      · dsimp only at hS
        cases hq : sh[q]? with
        | none => simp only [hq] at hS
        | some s0 =>
          simp only [hq] at hS
          obtain ⟨t0, ci, fs⟩ := s0
          rcases t0 with _ | t0
          · cases hca : Nat.beq ci a with
            | false => simp only [hca, cond_false] at hS
            | true =>
              simp only [hca, cond_true] at hS
              have hca := Nat.eq_of_beq_eq_true hca
              subst hca
              cases hfb : fs[b]? with
              | none => simp only [hfb] at hS
              | some f0 =>
                simp only [hfb] at hS
                rcases f0 with _ | f0
                · cases hc0 : Nat.beq c 0 with
                  | true =>
                    simp only [hc0, cond_true, Bool.and_eq_true, Bool.not_eq_true', decide_eq_true_eq] at hS h3
                    exact mm_s_putI (mm_dc_of h1) g1 k1 k2 k3 g2 g3 h3.1 (Or.inl h3.2) hq hfb hS
                  | false =>
                    simp only [hc0, cond_false] at hS h3
                    cases hc1 : Nat.beq c 1 with
                    | true =>
                      simp only [hc1, cond_true, Bool.and_eq_true, Bool.not_eq_true', decide_eq_true_eq] at hS h3
                      exact mm_s_putI (mm_dc_of h1) g1 k1 k2 k3 g2 g3 h3.1 (Or.inr ⟨h3.2, hS.1⟩) hq hfb hS.2
                    | false => simp only [hc1, cond_false] at hS
                · exact (show False from hS).elim
          · exact (show False from hS).elim
      · exact (show False from hS).elim
      · exact (show False from hS).elim
      · exact (show False from hS).elim
      · exact (show False from hS).elim
      · exact (show False from hS).elim
      · exact (show False from hS).elim
      · exact (show False from hS).elim
      · dsimp only at hS
        cases hq : sh[q]? with
        | none => simp only [hq] at hS
        | some s0 =>
          simp only [hq] at hS
          obtain ⟨t0, ci, fs⟩ := s0
          rcases t0 with _ | t0
          · cases hca : Nat.beq ci a with
            | false => simp only [hca, cond_false] at hS
            | true =>
              simp only [hca, cond_true] at hS
              have hca := Nat.eq_of_beq_eq_true hca
              subst hca
              cases hfb : fs[b]? with
              | none => simp only [hfb] at hS
              | some f0 =>
                simp only [hfb] at hS
                rcases f0 with _ | f0
                · exact (show False from hS).elim
                · cases hc2 : Nat.beq c 2 with
                  | false => simp only [hc2, cond_false] at hS
                  | true =>
                    simp only [hc2, cond_true] at hS
                    have hc2 := Nat.eq_of_beq_eq_true hc2
                    subst hc2
                    have h3 : ((r.2.1 b).2.2.2 && (decide (M.1.name = "<init>") && (decide ((r.2.1 b).1 = M.1.cls) && mm_isR (ft ci b)))) = true := h3
                    obtain ⟨u1, h3⟩ := mm_a2 h3
                    obtain ⟨u2, h3⟩ := mm_a2 h3
                    obtain ⟨u3, u4⟩ := mm_a2 h3
                    exact mm_s_putR (mm_dc_of h1) g1 k1 k2 k3 g2 g3 u1 (of_decide_eq_true u2) (of_decide_eq_true u3) (mm_isR_of u4) hq hfb hS
          · exact (show False from hS).elim
    case iaload =>
      have hI : mm_dc M pc .iaload 1 = true := hI
      rcases st with _ | ⟨i | i, _ | ⟨x | (_ | q), t⟩⟩
      · exact (show False from hS).elim
      · exact (show False from hS).elim
      · exact (show False from hS).elim
      · exact (show False from hS).elim
      · dsimp only at hS
        cases hq : sh[q]? with
        | none =>
          simp only [hq] at hS
          cases hb : Nat.beq q 1000 with
          | false => simp only [hb, cond_false] at hS
          | true =>
            simp only [hb, cond_true] at hS
            have hb := Nat.eq_of_beq_eq_true hb
            subst hb
            exact mm_s_sload hxs (mm_dc_of hI) hS.1 hS.2
        | some s0 =>
          simp only [hq] at hS
          obtain ⟨t0, n, fs⟩ := s0
          rcases t0 with _ | _ | t0
          · exact (show False from hS).elim
          · exact mm_s_iaload (mm_dc_of hI) hq hS.1 hS.2
          · exact (show False from hS).elim
      · exact (show False from hS).elim
      · exact (show False from hS).elim
      · exact (show False from hS).elim
      · exact (show False from hS).elim
    case baload =>
      have hI : mm_dc M pc .baload 1 = true := hI
      rcases st with _ | ⟨i | i, _ | ⟨x | (_ | q), t⟩⟩
      · exact (show False from hS).elim
      · exact (show False from hS).elim
      · exact (show False from hS).elim
      · exact (show False from hS).elim
      · dsimp only at hS
        cases hq : sh[q]? with
        | none => simp only [hq] at hS
        | some s0 =>
          simp only [hq] at hS
          obtain ⟨t0, n, fs⟩ := s0
          rcases t0 with _ | _ | _ | t0
          · exact (show False from hS).elim
          · exact (show False from hS).elim
          · exact mm_s_baload (mm_dc_of hI) hq hS.1 hS.2
          · exact (show False from hS).elim
      · exact (show False from hS).elim
      · exact (show False from hS).elim
      · exact (show False from hS).elim
      · exact (show False from hS).elim
    case iastore =>
      have hI : mm_dc M pc .iastore 1 = true := hI
      rcases st with _ | ⟨z | z, _ | ⟨i | i, _ | ⟨x | (_ | q), t⟩⟩⟩
      · exact (show False from hS).elim
      · exact (show False from hS).elim
      · exact (show False from hS).elim
      · exact (show False from hS).elim
      · exact (show False from hS).elim
      · dsimp only at hS
        cases hq : sh[q]? with
        | none => simp only [hq] at hS
        | some s0 =>
          simp only [hq] at hS
          obtain ⟨t0, n, fs⟩ := s0
          rcases t0 with _ | _ | t0
          · exact (show False from hS).elim
          · exact mm_s_iastore (mm_dc_of hI) hq hS.1 hS.2
          · exact (show False from hS).elim
      all_goals exact (show False from hS).elim
    case bastore =>
      have hI : mm_dc M pc .bastore 1 = true := hI
      rcases st with _ | ⟨z | z, _ | ⟨i | i, _ | ⟨x | (_ | q), t⟩⟩⟩
      · exact (show False from hS).elim
      · exact (show False from hS).elim
      · exact (show False from hS).elim
      · exact (show False from hS).elim
      · exact (show False from hS).elim
      · dsimp only at hS
        cases hq : sh[q]? with
        | none => simp only [hq] at hS
        | some s0 =>
          simp only [hq] at hS
          obtain ⟨t0, n, fs⟩ := s0
          rcases t0 with _ | _ | _ | t0
          · exact (show False from hS).elim
          · exact (show False from hS).elim
          · exact mm_s_bastore (mm_dc_of hI) hq hS.1.1 hS.1.2 hS.2
          · exact (show False from hS).elim
      all_goals exact (show False from hS).elim
    case aaload =>
      have hI : mm_dc M pc .aaload 1 = true := hI
      rcases st with _ | ⟨i | i, _ | ⟨x | (_ | q), t⟩⟩
      · exact (show False from hS).elim
      · exact (show False from hS).elim
      · exact (show False from hS).elim
      · exact (show False from hS).elim
      · dsimp only at hS
        cases hq : sh[q]? with
        | none => simp only [hq] at hS
        | some s0 =>
          simp only [hq] at hS
          obtain ⟨t0, n, fs⟩ := s0
          rcases t0 with _ | _ | _ | t0
          · exact (show False from hS).elim
          · exact (show False from hS).elim
          · exact (show False from hS).elim
          · obtain ⟨⟨u1, u2, u3, o, u4⟩, hS⟩ := hS
            have hgd : (fs.getD i.toNat none).getD none = some o := by rw [List.getD_eq_getElem?_getD, u4]; rfl
            rw [hgd] at hS
            exact mm_s_aaload (mm_dc_of hI) hq u1 ⟨u2, u3⟩ u4 hS
      · exact (show False from hS).elim
      · exact (show False from hS).elim
      · exact (show False from hS).elim
      · exact (show False from hS).elim
    case aastore =>
      have hI : mm_dc M pc .aastore 1 = true := hI
      match st, hS with
      | .inr (some o) :: .inl i :: .inr (some q) :: t, hS =>
        dsimp only at hS
        cases hq : sh[q]? with
        | none => simp only [hq] at hS
        | some s0 =>
          simp only [hq] at hS
          obtain ⟨t0, n, fs⟩ := s0
          rcases t0 with _ | _ | _ | t0
          · exact (show False from hS).elim
          · exact (show False from hS).elim
          · exact (show False from hS).elim
          · obtain ⟨⟨u1, u2, u3, u4, gs, u5⟩, hS⟩ := hS
            obtain ⟨r, hr⟩ : ∃ r, cl[bif Nat.beq t0 0 then 2 else 5]? = some r := by
              cases Nat.beq t0 0
              · exact hC0.2.1
              · exact hC0.1
            exact mm_s_aastore (mm_dc_of hI) hq u1 ⟨u2, u3⟩ u4 u5 hr hS
    case arraylength =>
      have hI : mm_dc M pc .arraylength 1 = true := hI
      rcases st with _ | ⟨x | (_ | q), t⟩
      · exact (show False from hS).elim
      · exact (show False from hS).elim
      · exact (show False from hS).elim
      · dsimp only at hS
        cases hb : Nat.beq q 1000 with
        | false => simp only [hb, cond_false] at hS
        | true =>
          simp only [hb, cond_true] at hS
          have hb := Nat.eq_of_beq_eq_true hb
          subst hb
          exact mm_s_slen hL (mm_dc_of hI) hS
    case newarray at_ =>
      have hI : (mm_dc M pc (.newarray at_) 2 && ((decide (at_ = .int) && (decide (a = 1) && mm_wd WS ps 0 (.arrayClass .int))) || (decide (at_ = .boolean) && (decide (a = 2) && mm_wd WS ps 0 (.arrayClass .boolean))))) = true := hI
      obtain ⟨h1, hI⟩ := mm_a2 hI
      rcases st with _ | ⟨n | n, t⟩
      · exact (show False from hS).elim
      · obtain ⟨⟨u1, u2, u3, u4, u5⟩, hS⟩ := hS
        rcases Bool.or_eq_true_iff.mp hI with h | h
        · obtain ⟨v1, h⟩ := mm_a2 h
          obtain ⟨v2, v3⟩ := mm_a2 h
          have v1 := of_decide_eq_true v1
          have v2 := of_decide_eq_true v2
          subst v1
          subst v2
          exact mm_s_newI (mm_dc_of h1) (mm_wd_in v3) ⟨u1, u2⟩ u3 u4 u5 hS
        · obtain ⟨v1, h⟩ := mm_a2 h
          obtain ⟨v2, v3⟩ := mm_a2 h
          have v1 := of_decide_eq_true v1
          have v2 := of_decide_eq_true v2
          subst v1
          subst v2
          exact mm_s_newZ (mm_dc_of h1) (mm_wd_in v3) ⟨u1, u2⟩ u3 u4 u5 hS
      · exact (show False from hS).elim
    case anewarray idx =>
      have hI : (mm_dc M pc (.anewarray idx) 3 && (decide (3 ≤ a) && (decide (a < 5) && mm_wd WS ps 0 (.classLink M.1.cls idx (mm_cn cl (bif Nat.beq (a - 3) 0 then 2 else 5)))))) = true := hI
      obtain ⟨h1, hI⟩ := mm_a2 hI
      obtain ⟨h2, hI⟩ := mm_a2 hI
      obtain ⟨h3, h4⟩ := mm_a2 hI
      have h2 : 3 ≤ a := of_decide_eq_true h2
      have h3 : a < 5 := of_decide_eq_true h3
      obtain ⟨kk, rfl⟩ : ∃ kk, a = kk + 3 := ⟨a - 3, by omega⟩
      rcases st with _ | ⟨n | n, t⟩
      · exact (show False from hS).elim
      · obtain ⟨⟨u1, u2, u3, u4, u5⟩, hS⟩ := hS
        exact mm_s_newR (by omega) (mm_dc_of h1) (mm_wd_in h4) ⟨u1, u2⟩ u3 u4 u5 hS
      · exact (show False from hS).elim
    case new idx =>
      have hI : (mm_dc M pc (.new idx) 3 && mm_oN WS cl M idx a ps) = true := hI
      obtain ⟨h1, h2⟩ := mm_a2 hI
      unfold mm_oN at h2
      cases hr : cl[a]? with
      | none => rw [hr] at h2; cases h2
      | some r =>
        rw [hr] at h2
        obtain ⟨w1, h2⟩ := mm_a2 h2
        obtain ⟨w2, w3⟩ := mm_a2 h2
        obtain ⟨k1, k2, k3, k4, k5⟩ := hC0.2.2 a r hr
        obtain ⟨⟨u1, u2, u3⟩, hS⟩ := hS
        exact mm_s_new (mm_dc_of h1) hr k1 k2 (mm_wd_in w1) (mm_wd_in w2) (mm_wd_in w3) k4 k5 u1 u2 u3 hS
    case invokevirtual idx =>
      have hI : (mm_dc M pc (.invokevirtual idx) 3 && (mm_cb pr np bd a && mm_oV pr WS cl M idx a b c ps)) = true := hI
      obtain ⟨h1, hI⟩ := mm_a2 hI
      obtain ⟨h2, h3⟩ := mm_a2 hI
      obtain ⟨ha, hbd⟩ := mm_a2 h2
      have ha : a < np := of_decide_eq_true ha
      have hbd := of_decide_eq_true hbd
      unfold mm_oV at h3
      cases hr : cl[c]? with
      | none => rw [hr] at h3; cases h3
      | some r =>
        rw [hr] at h3
        obtain ⟨w1, h3⟩ := mm_a2 h3
        obtain ⟨w2, h3⟩ := mm_a2 h3
        obtain ⟨w3, h3⟩ := mm_a2 h3
        obtain ⟨w4, h3⟩ := mm_a2 h3
        obtain ⟨w5, h3⟩ := mm_a2 h3
        obtain ⟨w6, w7⟩ := mm_a2 h3
        have w7 : b + 1 ≤ (pr a).2.2.1 := of_decide_eq_true w7
        obtain ⟨m1, m2⟩ := mm_mc_of w6
        dsimp only at hS
        cases hst : st.drop b with
        | nil => simp only [hst] at hS
        | cons v t =>
          simp only [hst] at hS
          rcases v with z | (_ | q)
          · exact (show False from hS).elim
          · exact (show False from hS).elim
          · dsimp only at hS
            rw [hbd] at hS
            obtain ⟨⟨⟨fs, u1⟩, u2, u3, u4⟩, hS⟩ := hS
            have hlen : (Sum.inr (some q) :: (st.take b).reverse : List mm_V).length ≤ (pr a).2.2.1 := by
              rw [List.length_cons, List.length_reverse, List.length_take]; omega
            have hd0 : ∃ d', d = d' + 1 := by
              cases d with
              | zero => exact (show False from hS).elim
              | succ d1 => exact ⟨d1, rfl⟩
            obtain ⟨d', hdd⟩ := hd0
            refine mm_s_callV (M' := pr a) hdd (mm_dc_of h1) hG (mm_wd_in w1) (mm_wd_in w2) (mm_wd_in w3) (mm_wd_in w4) (hcd a ha) ⟨of_decide_eq_true w5, m1⟩ m2 hr u1 hst u2 u3 u4 (fun i1 i2 i3 => ?_)
            obtain ⟨d2, e2, hm⟩ := hIH a _ sh N _ ha hS hlen i1 i2 i3
            have : d2 = d' := by omega
            subst this
            exact hm
    case invokestatic idx =>
      have hI : (mm_dc M pc (.invokestatic idx) 3 && (bif Nat.beq a 1000 then mm_wd WS ps 0 (.methodLink M.1.cls idx Lib.Math.max.name) && (mm_wd WS ps 1 (.static Lib.Math.max.name) && (mm_wd WS ps 2 (.initialized "java/lang/Math") && mm_wd WS ps 3 (.code Lib.Math.max.name Lib.Math.max.code 2 (some .int)))) else bif Nat.beq a 1001 then mm_wd WS ps 0 (.methodLink M.1.cls idx Lib.Math.min.name) && (mm_wd WS ps 1 (.static Lib.Math.min.name) && (mm_wd WS ps 2 (.initialized "java/lang/Math") && mm_wd WS ps 3 (.code Lib.Math.min.name Lib.Math.min.code 2 (some .int)))) else bif Nat.beq a 1002 then mm_wd WS ps 0 (.methodLink M.1.cls idx arraycopyName) && (mm_wd WS ps 1 (.native arraycopyName) && (mm_wd WS ps 2 (.static arraycopyName) && mm_wd WS ps 3 (.initialized "java/lang/System"))) else mm_cb pr np bd a && mm_oS pr WS M idx a b ps)) = true := hI
      obtain ⟨h1, h2⟩ := mm_a2 hI
      dsimp only at hS
      cases hx : Nat.beq a 1000 with
      | true =>
        simp only [hx, cond_true] at hS h2
        obtain ⟨w1, h2⟩ := mm_a2 h2
        obtain ⟨w2, h2⟩ := mm_a2 h2
        obtain ⟨w3, w4⟩ := mm_a2 h2
        rcases st with _ | ⟨y | y, _ | ⟨x | x, t⟩⟩
        · exact (show False from hS).elim
        · exact (show False from hS).elim
        · dsimp only at hS
          cases hfw : mm_few t with
          | false => simp only [hfw, cond_false] at hS
          | true =>
            simp only [hfw, cond_true] at hS
            exact mm_s_max (mm_dc_of h1) (mm_wd_in w1) (mm_wd_in w2) (mm_wd_in w3) (mm_wd_in w4) hfw hS
        · exact (show False from hS).elim
        · exact (show False from hS).elim
        · exact (show False from hS).elim
        · exact (show False from hS).elim
      | false =>
        simp only [hx, cond_false] at hS h2
        cases hy : Nat.beq a 1001 with
        | true =>
          simp only [hy, cond_true] at hS h2
          obtain ⟨w1, h2⟩ := mm_a2 h2
          obtain ⟨w2, h2⟩ := mm_a2 h2
          obtain ⟨w3, w4⟩ := mm_a2 h2
          rcases st with _ | ⟨y | y, _ | ⟨x | x, t⟩⟩
          · exact (show False from hS).elim
          · exact (show False from hS).elim
          · dsimp only at hS
            cases hfw : mm_few t with
            | false => simp only [hfw, cond_false] at hS
            | true =>
              simp only [hfw, cond_true] at hS
              exact mm_s_min (mm_dc_of h1) (mm_wd_in w1) (mm_wd_in w2) (mm_wd_in w3) (mm_wd_in w4) hfw hS
          · exact (show False from hS).elim
          · exact (show False from hS).elim
          · exact (show False from hS).elim
          · exact (show False from hS).elim
        | false =>
          simp only [hy, cond_false] at hS h2
          cases hw : Nat.beq a 1002 with
          | true =>
            simp only [hw, cond_true] at hS h2
            obtain ⟨w1, h2⟩ := mm_a2 h2
            obtain ⟨w2, h2⟩ := mm_a2 h2
            obtain ⟨w3, w4⟩ := mm_a2 h2
            match st, hS with
            | .inl n :: .inl dp :: .inr (some q1) :: .inl sp :: .inr (some q0) :: t, hS =>
              dsimp only at hS
              cases hq0 : sh[q0]? with
              | none => simp only [hq0] at hS
              | some s0 =>
                cases hq1 : sh[q1]? with
                | none => simp only [hq0, hq1] at hS
                | some s1 =>
                  simp only [hq0, hq1] at hS
                  obtain ⟨t0, n0, f0⟩ := s0
                  obtain ⟨t1, n1, f1⟩ := s1
                  rcases t0 with _ | _ | t0
                  · exact (show False from hS).elim
                  · rcases t1 with _ | _ | t1
                    · exact (show False from hS).elim
                    · try dsimp only at hS
                      cases hfw : mm_few t with
                      | false => simp only [hfw, cond_false] at hS
                      | true =>
                        simp only [hfw, cond_true] at hS
                        exact mm_s_copy (mm_dc_of h1) (mm_wd_in w1) (mm_wd_in w2) (mm_wd_in w3) (mm_wd_in w4) hfw hq0 hq1 hS.1.1 hS.1.2.1 hS.1.2.2 hS.2
                    · exact (show False from hS).elim
                  · exact (show False from hS).elim
          | false =>
            simp only [hw, cond_false] at hS h2
            obtain ⟨h3, h4⟩ := mm_a2 h2
            obtain ⟨ha, hbd⟩ := mm_a2 h3
            have ha : a < np := of_decide_eq_true ha
            have hbd := of_decide_eq_true hbd
            unfold mm_oS at h4
            obtain ⟨w1, h4⟩ := mm_a2 h4
            obtain ⟨w2, h4⟩ := mm_a2 h4
            obtain ⟨w3, h4⟩ := mm_a2 h4
            obtain ⟨w4, h4⟩ := mm_a2 h4
            obtain ⟨w5, w6⟩ := mm_a2 h4
            have w6 : b ≤ (pr a).2.2.1 := of_decide_eq_true w6
            obtain ⟨m1, m2⟩ := mm_mc_of w5
            rw [hbd] at hS
            obtain ⟨⟨u1, u2, u3, u4⟩, hS⟩ := hS
            have hlen : (st.take b).reverse.length ≤ (pr a).2.2.1 := by
              rw [List.length_reverse, List.length_take]; omega
            have hd0 : ∃ d', d = d' + 1 := by
              cases d with
              | zero => exact (show False from hS).elim
              | succ d1 => exact ⟨d1, rfl⟩
            obtain ⟨d', hdd⟩ := hd0
            refine mm_s_callS (M' := pr a) hdd (mm_dc_of h1) hG (mm_wd_in w1) (mm_wd_in w2) (mm_wd_in w3) (hcd a ha) ⟨of_decide_eq_true w4, m1⟩ m2 u1 u2 u3 u4 (fun i1 i2 i3 => ?_)
            obtain ⟨d2, e2, hm⟩ := hIH a _ sh N _ ha hS hlen i1 i2 i3
            have : d2 = d' := by omega
            subst this
            exact hm
    case invokespecial idx =>
      have hI : (mm_dc M pc (.invokespecial idx) 3 && (bif Nat.beq a 1003 then mm_wd WS ps 0 (.methodLink M.1.cls idx Lib.objectInit) && (mm_wd WS ps 1 (.instanceMethod Lib.objectInit) && mm_wd WS ps 2 (.code Lib.objectInit ⟨#[0xb1]⟩ 1 none)) else mm_cb pr np bd a && mm_oI pr WS NW M idx a c ps)) = true := hI
      obtain ⟨h1, h2⟩ := mm_a2 hI
      rcases st with _ | ⟨x | (_ | q), t⟩
      · exact (show False from hS).elim
      · exact (show False from hS).elim
      · exact (show False from hS).elim
      · dsimp only at hS
        cases hx : Nat.beq a 1003 with
        | true =>
          simp only [hx, cond_true] at hS h2
          obtain ⟨w1, h2⟩ := mm_a2 h2
          obtain ⟨w2, w3⟩ := mm_a2 h2
          cases hfw : mm_few t with
          | false => simp only [hfw, cond_false] at hS
          | true =>
            simp only [hfw, cond_true] at hS
            exact mm_s_objInit (mm_dc_of h1) (mm_wd_in w1) (mm_wd_in w2) (mm_wd_in w3) hfw hS
        | false =>
          simp only [hx, cond_false] at hS h2
          obtain ⟨h3, h4⟩ := mm_a2 h2
          obtain ⟨ha, hbd⟩ := mm_a2 h3
          have ha : a < np := of_decide_eq_true ha
          have hbd := of_decide_eq_true hbd
          unfold mm_oI at h4
          obtain ⟨w1, h4⟩ := mm_a2 h4
          obtain ⟨w2, h4⟩ := mm_a2 h4
          obtain ⟨w3, h4⟩ := mm_a2 h4
          obtain ⟨w4, h4⟩ := mm_a2 h4
          obtain ⟨w5, h4⟩ := mm_a2 h4
          obtain ⟨w6, w7⟩ := mm_a2 h4
          have w7 : 1 ≤ (pr a).2.2.1 := of_decide_eq_true w7
          obtain ⟨m1, m2⟩ := mm_mc_of w6
          rw [hbd] at hS
          obtain ⟨⟨u2, u3, u4⟩, hS⟩ := hS
          have hlk : Cond.methodLink M.1.cls idx (pr a).1 ∈ WS ∨ ∃ host, (M.1.cls, idx, (pr a).1, host) ∈ NW := by
            cases hc : Nat.beq c 0 with
            | true => rw [hc] at w1; exact Or.inl (mm_wd_in w1)
            | false =>
              rw [hc] at w1
              obtain ⟨w, v1, v2⟩ := List.any_eq_true.mp w1
              obtain ⟨v3, v2⟩ := mm_a2 v2
              obtain ⟨v4, v5⟩ := mm_a2 v2
              refine Or.inr ⟨w.2.2.2, ?_⟩
              rw [← of_decide_eq_true v3, ← of_decide_eq_true v4, ← of_decide_eq_true v5]
              exact v1
          have hd0 : ∃ d', d = d' + 1 := by
            cases d with
            | zero => exact (show False from hS).elim
            | succ d1 => exact ⟨d1, rfl⟩
          obtain ⟨d', hdd⟩ := hd0
          refine mm_s_callI (M' := pr a) hdd (mm_dc_of h1) hG hlk (mm_wd_in w2) (mm_wd_in w3) (hcd a ha) (by simpa using w4) (of_decide_eq_true w5) m1 m2 u2 u3 u4 (fun i2 i3 => ?_)
          obtain ⟨d2, e2, hm⟩ := hIH a _ sh N _ ha hS (by simpa using w7) ⟨trivial, trivial⟩ i2 i3
          have : d2 = d' := by omega
          subst this
          exact hm
    case ireturn =>
      have hI : mm_dc M pc .ireturn 1 = true := hI
      rcases st with _ | ⟨z | z, _ | ⟨y, t⟩⟩
      · exact (show False from hS).elim
      · exact mm_s_ireturn (mm_dc_of hI) hS.1.1 hS.1.2 hS.2
      · exact (show False from hS).elim
      · exact (show False from hS).elim
      · exact (show False from hS).elim
    case return_ =>
      have hI : (mm_dc M pc .return_ 1 && M.2.2.2.1.isNone) = true := hI
      rcases st with _ | ⟨z, t⟩
      · exact mm_s_return (mm_dc_of (mm_a2 hI).1) hS.1 (by simpa using (mm_a2 hI).2) hS.2
      · exact (show False from hS).elim
    all_goals exact (show False from hS).elim
theorem mm_met (hC0 : mm_okC pf WS cl ft) (hG : GoodIn WS WS) (hcd : ∀ y, y < np → Cond.code (pr y).1 (pr y).2.1 (pr y).2.2.1 (pr y).2.2.2.1 ∈ WS) (hxs : ∀ j, mm_ir (xs j)) (hL : mm_ir (L : Int)) (hpr : ∀ y, y < np → mm_okM pr np bd WS cl ft NW (pr y) = true) (hb0 : b0 < h0) :
    ∀ (d y : Nat) (as : List mm_V) (sh : List mm_S) (N : mm_N) (Q : mm_Q), y < np → mm_Cl pf bd L xs pr d y as sh N Q → as.length ≤ (pr y).2.2.1 → mm_ivs as → (∀ a b, mm_ir (N a b)) → sh.length ≤ 900 → ∃ d', d = d' + 1 ∧ mm_Met l WS cl NW D cT h0 b0 L xs d' (pr y) Q as sh N := by
  intro d
  induction d with
  | zero => exact fun y as sh N Q _ h => h.elim
  | succ d ih =>
    intro y as sh N Q hy hcl has hiv hN hsh
    refine ⟨d, rfl, ?_⟩
    have hw := hcl (mm_G l WS cl NW D cT h0 b0 L xs d (pr y) Q) (fun X hX => mm_clo hC0 hG hcd hxs hL (hpr y hy) ih X hX)
    refine Met.ofW (cc := (pr y).2.1) (maxL := (pr y).2.2.1) (ret := (pr y).2.2.2.1) (mm_a2 (hpr y hy)).1 rfl ?_
    intro p e s m args below meth c s₁ B hml hv
    obtain ⟨rfl, hP, hsz, hK⟩ := hv
    have hts := atoms_spec (ws := mm_ws WS (pr y)) B.pre
    have hown : s.vm.findClass (pr y).1.cls = some m.cls := findClass_of_methodNamed B.named
    have hnm : meth.name = (pr y).1.name := (name_of_methodNamed B.named B.method).1
    have hlocks : meth.locks = false := B.notSynchronized
    have hlen : (lg_sl (as.map (mm_v h0 b0))).length ≤ (pr y).2.2.1 := by
      rw [mm_sl_len]
      exact has
    have hl := lv_entry (as.map (mm_v h0 b0)) (n := (pr y).2.2.1) hlen
    rw [lg_entry_eq]
    rw [mm_ent_lv] at hl
    refine hw p e _ s m _ below meth c _ ⟨B.exec, B.bytes, hml, hown, fun w h => hts w (List.mem_cons_of_mem _ h), fun h => hnm.trans h, hK, ⟨hb0, by omega⟩, ⟨Nat.le_refl _, Nat.le_refl _, Nat.le_refl _, Nat.le_refl _⟩, ?_⟩ s.heap [] _ ⟨hP, by show s.heap.size + 0 = _; omega, va_S.rf, hl, hsh, hN, trivial, mm_ent_iv 0 as hiv, Nat.zero_le _, Nat.zero_le _⟩
    intro pc lv ce sl r sh1 N1 H locs ls hq hce hrc hH
    obtain ⟨gP, gz, gS, gl, g1, g2, g3, g4, g5, g6⟩ := hH
    have gz : s.heap.size + ce = h0 + sh1.length := gz
    have g6 : sl ≤ (pr y).2.2.2.2.2.2 := g6
    refine W.widen (Nat.le_of_eq hce) g6 ?_
    have hpost : ∀ t : State, t.heap = H → mm_Qc cl D cT h0 b0 Q (sh.length + (pr y).2.2.2.2.2.1) (as.map (mm_v h0 b0)).toArray s (.returned (r.map (mm_v h0 b0))) t := fun t ht => ⟨r, sh1, N1, rfl, hq, by rw [ht]; exact gP, by omega, g1, g2, g3, gS.F ht⟩
    rcases hrc with ⟨z, rfl, hr, hd⟩ | ⟨rfl, hr, hd⟩
    · rcases hr with hr | ⟨hr, hz⟩
      · exact W.iret B.exec B.bytes (B.returns.trans hr) (fun t ht _ => hpost t ht) gS.2.2 hd
      · refine W.zret (ty := .boolean) B.exec B.bytes (B.returns.trans hr) ?_ (fun t ht _ => hpost t ht) gS.2.2 hd
        rcases hz with rfl | rfl
        · decide +kernel
        · decide +kernel
    · exact W.vret B.exec B.bytes (B.returns.trans hr) (fun t ht _ => hpost t ht) gS.2.2 hd
end MMR
