/-! a small machine over pictures of the heap: states, one step, what is reached from a state -/
abbrev mm_V : Type := Int ⊕ Option Nat
abbrev mm_S : Type := Nat × Nat × List (Option (Option Nat))
abbrev mm_N : Type := Nat → Nat → Int
abbrev mm_I : Type := ClassFile.Instr × Nat × Nat × Nat × Nat × List Nat
abbrev mm_M : Type := MethodName × ByteArray × Nat × Option FieldType × List (Nat × mm_I) × Nat × Nat
abbrev mm_X : Type := Nat × List (Nat × mm_V) × List mm_V × List mm_S × mm_N × Nat × Nat
abbrev mm_Q : Type := Option mm_V → List mm_S → mm_N → Prop
abbrev mm_R : Type := mm_X ⊕ (Prop × mm_X) ⊕ (Prop × Option mm_V × List mm_S × mm_N) ⊕ (Prop × Nat × List mm_V × (Option mm_V → List mm_S → mm_N → mm_X))
def mm_wr (z : Int) : Int := (Int32.ofInt z).toInt
def mm_and (x y : Int) : Int := (Int32.ofInt x &&& Int32.ofInt y).toInt
/-- the bytes that an instruction takes, where the next one matters -/
def mm_len (ins : ClassFile.Instr) : Nat := match ins with
  | .bipush _ => 2
  | .sipush _ => 3
  | .iload _ => 2
  | .aload _ => 2
  | .istore _ => 2
  | .astore _ => 2
  | .iinc _ _ => 3
  | .goto _ => 3
  | .ifCond _ _ => 3
  | .if_icmp _ _ => 3
  | .getfield _ => 3
  | .putfield _ => 3
  | .newarray _ => 2
  | .anewarray _ => 3
  | .new _ => 3
  | .invokevirtual _ => 3
  | .invokestatic _ => 3
  | .invokespecial _ => 3
  | _ => 1
def mm_fetch : List (Nat × mm_I) → Nat → Option mm_I
  | [], _ => none
  | (q, i) :: t, pc => bif Nat.beq q pc then some i else mm_fetch t pc
def mm_lk : List (Nat × mm_V) → Nat → Option mm_V
  | [], _ => none
  | (j, v) :: t, i => bif Nat.beq j i then some v else mm_lk t i
def mm_st (lv : List (Nat × mm_V)) (i : Nat) (v : mm_V) : List (Nat × mm_V) := (i, v) :: lv.filter (fun q => !(Nat.beq q.1 i))
def mm_f1 (f : Nat → Int) (j : Nat) (v : Int) : Nat → Int := fun b => bif Nat.beq b j then v else f b
def mm_f0 (N : mm_N) (r : Nat) (f : Nat → Int) : mm_N := fun a => bif Nat.beq a r then f else N a
def mm_f2 (N : mm_N) (r j : Nat) (v : Int) : mm_N := mm_f0 N r (mm_f1 (N r) j v)
def mm_cp (f g : Nat → Int) (sp dp n : Nat) : Nat → Int := fun k => if dp ≤ k ∧ k < dp + n then f (sp + (k - dp)) else g k
def mm_tgt (pc : Nat) (dflt lo hi : Int) (offs : Array Int) (x : Int) : Nat := if x < lo ∨ hi < x then ((pc : Int) + dflt).toNat else ((pc : Int) + offs.toList.getD (x - lo).toNat 0).toNat
/-- values on the stack below a call -/
def mm_few (t : List mm_V) : Bool := match t with
  | _ :: _ :: _ :: _ :: _ :: _ :: _ :: _ :: _ :: _ => false
  | _ => true
section MMS
variable (pf : Nat → List (Option (Option Nat))) (bd : Nat → Nat × Nat) (L : Nat) (xs : Nat → Int)
def mm_get (sh : List mm_S) (N : mm_N) (a b q : Nat) : Option mm_V := match sh[q]? with
  | some (0, ci, fs) => bif Nat.beq ci a then (match fs[b]? with
    | some none => some (.inl (N q b))
    | some (some r) => some (.inr r)
    | none => none) else none
  | _ => none
def mm_step (M : mm_M) (X : mm_X) : Option mm_R := match X with
  | (pc, lv, st, sh, N, ce, sl) => match mm_fetch M.2.2.2.2.1 pc with
    | none => none
    | some (ins, nx, a, b, c, _) => match ins with
      | .iconst n => some (.inl (nx, lv, .inl n :: st, sh, N, ce, sl))
      | .bipush n => some (.inl (nx, lv, .inl n :: st, sh, N, ce, sl))
      | .sipush n => some (.inl (nx, lv, .inl n :: st, sh, N, ce, sl))
      | .iload_n k => match mm_lk lv k.val with
        | some (.inl z) => some (.inl (nx, lv, .inl z :: st, sh, N, ce, sl))
        | _ => none
      | .iload k => match mm_lk lv k with
        | some (.inl z) => some (.inl (nx, lv, .inl z :: st, sh, N, ce, sl))
        | _ => none
      | .aload_n k => match mm_lk lv k.val with
        | some (.inr (some q)) => some (.inl (nx, lv, .inr (some q) :: st, sh, N, ce, sl))
        | _ => none
      | .aload k => match mm_lk lv k with
        | some (.inr (some q)) => some (.inl (nx, lv, .inr (some q) :: st, sh, N, ce, sl))
        | _ => none
      | .istore_n k => match st with
        | .inl z :: t => some (.inl (nx, mm_st lv k.val (.inl z), t, sh, N, ce, sl))
        | _ => none
      | .istore k => match st with
        | .inl z :: t => some (.inl (nx, mm_st lv k (.inl z), t, sh, N, ce, sl))
        | _ => none
      | .astore_n k => match st with
        | .inr (some q) :: t => some (.inl (nx, mm_st lv k.val (.inr (some q)), t, sh, N, ce, sl))
        | _ => none
      | .astore k => match st with
        | .inr (some q) :: t => some (.inl (nx, mm_st lv k (.inr (some q)), t, sh, N, ce, sl))
        | _ => none
      | .iinc k n => match mm_lk lv k with
        | some (.inl z) => some (.inl (nx, mm_st lv k (.inl (mm_wr (z + n))), st, sh, N, ce, sl))
        | _ => none
      | .iadd => match st with
        | .inl y :: .inl x :: t => some (.inl (nx, lv, .inl (mm_wr (x + y)) :: t, sh, N, ce, sl))
        | _ => none
      | .isub => match st with
        | .inl y :: .inl x :: t => some (.inl (nx, lv, .inl (mm_wr (x - y)) :: t, sh, N, ce, sl))
        | _ => none
      | .imul => match st with
        | .inl y :: .inl x :: t => some (.inl (nx, lv, .inl (mm_wr (x * y)) :: t, sh, N, ce, sl))
        | _ => none
      | .ineg => match st with
        | .inl x :: t => some (.inl (nx, lv, .inl (mm_wr (-x)) :: t, sh, N, ce, sl))
        | _ => none
      | .iand => match st with
        | .inl y :: .inl x :: t => some (.inl (nx, lv, .inl (mm_and x y) :: t, sh, N, ce, sl))
        | _ => none
      | .idiv => match st with
        | .inl y :: .inl x :: t => some (.inr (.inl (y ≠ 0, (nx, lv, .inl (mm_wr (x.tdiv y)) :: t, sh, N, ce, sl))))
        | _ => none
      | .irem => match st with
        | .inl y :: .inl x :: t => some (.inr (.inl (y ≠ 0, (nx, lv, .inl (mm_wr (x.tmod y)) :: t, sh, N, ce, sl))))
        | _ => none
      | .dup => match st with
        | x :: t => some (.inl (nx, lv, x :: x :: t, sh, N, ce, sl))
        | _ => none
      | .dup2 => match st with
        | x :: y :: t => some (.inl (nx, lv, x :: y :: x :: y :: t, sh, N, ce, sl))
        | _ => none
      | .pop => match st with
        | _ :: t => some (.inl (nx, lv, t, sh, N, ce, sl))
        | _ => none
      | .goto _ => some (.inl (a, lv, st, sh, N, ce, sl))
      | .ifCond cnd _ => match st with
        | .inl x :: t => match cnd with
          | .eq => some (.inl (if x = 0 then a else nx, lv, t, sh, N, ce, sl))
          | .ne => some (.inl (if x = 0 then nx else a, lv, t, sh, N, ce, sl))
          | .lt => some (.inl (if x < 0 then a else nx, lv, t, sh, N, ce, sl))
          | .ge => some (.inl (if x < 0 then nx else a, lv, t, sh, N, ce, sl))
          | .gt => some (.inl (if 0 < x then a else nx, lv, t, sh, N, ce, sl))
          | .le => some (.inl (if 0 < x then nx else a, lv, t, sh, N, ce, sl))
        | _ => none
      | .if_icmp cnd _ => match st with
        | .inl y :: .inl x :: t => match cnd with
          | .eq => some (.inl (if x = y then a else nx, lv, t, sh, N, ce, sl))
          | .ne => some (.inl (if x = y then nx else a, lv, t, sh, N, ce, sl))
          | .lt => some (.inl (if x < y then a else nx, lv, t, sh, N, ce, sl))
          | .ge => some (.inl (if x < y then nx else a, lv, t, sh, N, ce, sl))
          | .gt => some (.inl (if y < x then a else nx, lv, t, sh, N, ce, sl))
          | .le => some (.inl (if y < x then nx else a, lv, t, sh, N, ce, sl))
        | _ => none
      | .tableswitch dflt lo hi offs => match st with
        | .inl x :: t => some (.inl (mm_tgt pc dflt lo hi offs x, lv, t, sh, N, ce, sl))
        | _ => none
      | .getfield _ => match st with
        | .inr (some q) :: t => match mm_get sh N a b q with
          | some v => some (.inl (nx, lv, v :: t, sh, N, ce, sl))
          | none => none
        | _ => none
      | .putfield _ => match st with
        | .inl z :: .inr (some q) :: t => match sh[q]? with
          | some (0, ci, fs) => bif Nat.beq ci a then (match fs[b]? with
            | some none => bif Nat.beq c 0 then some (.inl (nx, lv, t, sh, mm_f2 N q b z, ce, sl))
              else bif Nat.beq c 1 then some (.inr (.inl (z = 0 ∨ z = 1, (nx, lv, t, sh, mm_f2 N q b z, ce, sl)))) else none
            | _ => none) else none
          | _ => none
        | .inr (some r) :: .inr (some q) :: t => match sh[q]? with
          | some (0, ci, fs) => bif Nat.beq ci a then (match fs[b]? with
            | some (some _) => bif Nat.beq c 2 then some (.inl (nx, lv, t, sh.set q (0, ci, fs.set b (some (some r))), N, ce, sl)) else none
            | _ => none) else none
          | _ => none
        | _ => none
      | .iaload => match st with
        | .inl i :: .inr (some q) :: t => match sh[q]? with
          | some (1, n, _) => some (.inr (.inl (0 ≤ i ∧ i < n, (nx, lv, .inl (N q i.toNat) :: t, sh, N, ce, sl))))
          | none => bif Nat.beq q 1000 then some (.inr (.inl (0 ≤ i ∧ i < L, (nx, lv, .inl (xs i.toNat) :: t, sh, N, ce, sl)))) else none
          | _ => none
        | _ => none
      | .baload => match st with
        | .inl i :: .inr (some q) :: t => match sh[q]? with
          | some (2, n, _) => some (.inr (.inl (0 ≤ i ∧ i < n, (nx, lv, .inl (N q i.toNat) :: t, sh, N, ce, sl))))
          | _ => none
        | _ => none
      | .iastore => match st with
        | .inl z :: .inl i :: .inr (some q) :: t => match sh[q]? with
          | some (1, n, _) => some (.inr (.inl (0 ≤ i ∧ i < n, (nx, lv, t, sh, mm_f2 N q i.toNat z, ce, sl))))
          | _ => none
        | _ => none
      | .bastore => match st with
        | .inl z :: .inl i :: .inr (some q) :: t => match sh[q]? with
          | some (2, n, _) => some (.inr (.inl ((z = 0 ∨ z = 1) ∧ 0 ≤ i ∧ i < n, (nx, lv, t, sh, mm_f2 N q i.toNat z, ce, sl))))
          | _ => none
        | _ => none
      | .aaload => match st with
        | .inl i :: .inr (some q) :: t => match sh[q]? with
          | some (k + 3, n, fs) => some (.inr (.inl (k < 2 ∧ 0 ≤ i ∧ i < n ∧ (∃ r, fs[i.toNat]? = some (some (some r))), (nx, lv, .inr ((fs.getD i.toNat none).getD none) :: t, sh, N, ce, sl))))
          | _ => none
        | _ => none
      | .aastore => match st with
        | .inr (some r) :: .inl i :: .inr (some q) :: t => match sh[q]? with
          | some (k + 3, n, fs) => some (.inr (.inl (k < 2 ∧ 0 ≤ i ∧ i < n ∧ fs.length = n ∧ (∃ gs, sh[r]? = some (0, (bif Nat.beq k 0 then 2 else 5), gs)), (nx, lv, t, sh.set q (k + 3, n, fs.set i.toNat (some (some r))), N, ce, sl))))
          | _ => none
        | _ => none
      | .arraylength => match st with
        | .inr (some q) :: t => bif Nat.beq q 1000 then some (.inl (nx, lv, .inl (L : Int) :: t, sh, N, ce, sl)) else none
        | _ => none
      | .newarray _ => match st with
        | .inl n :: t => some (.inr (.inl (0 ≤ n ∧ n ≤ 100000 ∧ ce + 1 ≤ M.2.2.2.2.2.1 ∧ sl + n.toNat ≤ M.2.2.2.2.2.2 ∧ sh.length < 900, (nx, lv, .inr (some sh.length) :: t, sh ++ [(a, n.toNat, [])], mm_f0 N sh.length (fun _ => 0), ce + 1, sl + n.toNat))))
        | _ => none
      | .anewarray _ => match st with
        | .inl n :: t => some (.inr (.inl (0 ≤ n ∧ n ≤ 100000 ∧ ce + 1 ≤ M.2.2.2.2.2.1 ∧ sl + n.toNat ≤ M.2.2.2.2.2.2 ∧ sh.length < 900, (nx, lv, .inr (some sh.length) :: t, sh ++ [(a, n.toNat, List.replicate n.toNat (some none))], mm_f0 N sh.length (fun _ => 0), ce + 1, sl + n.toNat))))
        | _ => none
      | .new _ => some (.inr (.inl (ce + 1 ≤ M.2.2.2.2.2.1 ∧ sl + (pf a).length ≤ M.2.2.2.2.2.2 ∧ sh.length < 900, (nx, lv, .inr (some sh.length) :: st, sh ++ [(0, a, pf a)], mm_f0 N sh.length (fun _ => 0), ce + 1, sl + (pf a).length))))
      | .invokevirtual _ => match st.drop b with
        | .inr (some q) :: t => some (.inr (.inr (.inr ((∃ fs, sh[q]? = some (0, c, fs)) ∧ mm_few t = true ∧ ce + (bd a).1 ≤ M.2.2.2.2.2.1 ∧ sl + (bd a).2 ≤ M.2.2.2.2.2.2, a, .inr (some q) :: (st.take b).reverse, fun r sh' N' => (nx, lv, r.toList ++ t, sh', N', ce + (bd a).1, sl + (bd a).2)))))
        | _ => none
      | .invokestatic _ => bif Nat.beq a 1000 then (match st with
          | .inl y :: .inl x :: t => bif mm_few t then some (.inl (nx, lv, .inl (if x < y then y else x) :: t, sh, N, ce, sl)) else none
          | _ => none) else bif Nat.beq a 1001 then (match st with
          | .inl y :: .inl x :: t => bif mm_few t then some (.inl (nx, lv, .inl (if y < x then y else x) :: t, sh, N, ce, sl)) else none
          | _ => none) else bif Nat.beq a 1002 then (match st with
          | .inl n :: .inl dp :: .inr (some q1) :: .inl sp :: .inr (some q0) :: t => match sh[q0]?, sh[q1]? with
            | some (1, n0, _), some (1, n1, _) => bif mm_few t then some (.inr (.inl ((0 ≤ sp ∧ 0 ≤ dp ∧ 0 ≤ n) ∧ sp + n ≤ n0 ∧ dp + n ≤ n1, (nx, lv, t, sh, mm_f0 N q1 (mm_cp (N q0) (N q1) sp.toNat dp.toNat n.toNat), ce, sl)))) else none
            | _, _ => none
          | _ => none) else
          some (.inr (.inr (.inr (b ≤ st.length ∧ mm_few (st.drop b) = true ∧ ce + (bd a).1 ≤ M.2.2.2.2.2.1 ∧ sl + (bd a).2 ≤ M.2.2.2.2.2.2, a, (st.take b).reverse, fun r sh' N' => (nx, lv, r.toList ++ st.drop b, sh', N', ce + (bd a).1, sl + (bd a).2)))))
      | .invokespecial _ => match st with
        | .inr (some q) :: t => bif Nat.beq a 1003 then (bif mm_few t then some (.inl (nx, lv, t, sh, N, ce, sl)) else none)
          else some (.inr (.inr (.inr (mm_few t = true ∧ ce + (bd a).1 ≤ M.2.2.2.2.2.1 ∧ sl + (bd a).2 ≤ M.2.2.2.2.2.2, a, [.inr (some q)], fun r sh' N' => (nx, lv, r.toList ++ t, sh', N', ce + (bd a).1, sl + (bd a).2)))))
        | _ => none
      | .ireturn => match st with
        | [.inl z] => some (.inr (.inr (.inl (ce = M.2.2.2.2.2.1 ∧ (M.2.2.2.1 = some .int ∨ (M.2.2.2.1 = some .boolean ∧ (z = 0 ∨ z = 1))), some (.inl z), sh, N))))
        | _ => none
      | .return_ => match st with
        | [] => some (.inr (.inr (.inl (ce = M.2.2.2.2.2.1, none, sh, N))))
        | _ => none
      | _ => none
abbrev mm_Cs : Type := Nat → List mm_V → List mm_S → mm_N → mm_Q → Prop
def mm_Step (C : mm_Cs) (M : mm_M) (X : mm_X) (P : mm_X → Prop) (Q : mm_Q) : Prop := match mm_step pf bd L xs M X with
  | some (.inl Y) => P Y
  | some (.inr (.inl (g, Y))) => g ∧ P Y
  | some (.inr (.inr (.inl (g, r, sh, N)))) => g ∧ Q r sh N
  | some (.inr (.inr (.inr (g, y, as, k)))) => g ∧ C y as X.2.2.2.1 X.2.2.2.2.1 (fun r sh N => P (k r sh N))
  | none => False
def mm_Wp (C : mm_Cs) (M : mm_M) (Q : mm_Q) (X : mm_X) : Prop := ∀ P : mm_X → Prop, (∀ Y, mm_Step pf bd L xs C M Y P Q → P Y) → P X
def mm_ent : Nat → List mm_V → List (Nat × mm_V)
  | _, [] => []
  | i, v :: t => (i, v) :: mm_ent (i + 1) t
variable (pr : Nat → mm_M)
def mm_Cl : Nat → mm_Cs
  | 0 => fun _ _ _ _ _ => False
  | d + 1 => fun y as sh N Q => mm_Wp pf bd L xs (mm_Cl d) (pr y) Q (0, mm_ent 0 as, [], sh, N, 0, 0)
def mm_Mono (C C' : mm_Cs) : Prop := ∀ y as sh N (Q Q' : mm_Q), (∀ r sh N, Q r sh N → Q' r sh N) → C y as sh N Q → C' y as sh N Q'
theorem mm_Step_mono {C C' : mm_Cs} (hC : mm_Mono C C') {M : mm_M} {X : mm_X} {P P' : mm_X → Prop} {Q Q' : mm_Q} (hP : ∀ Y, P Y → P' Y) (hQ : ∀ r sh N, Q r sh N → Q' r sh N) (h : mm_Step pf bd L xs C M X P Q) : mm_Step pf bd L xs C' M X P' Q' := by
  unfold mm_Step at h ⊢
  split at h
  · exact hP _ h
  · exact ⟨h.1, hP _ h.2⟩
  · exact ⟨h.1, hQ _ _ _ h.2⟩
  · exact ⟨h.1, hC _ _ _ _ _ _ (fun r sh N => hP _) h.2⟩
  · exact h
theorem mm_Wp_mono {C C' : mm_Cs} (hC : mm_Mono C C') {M : mm_M} {X : mm_X} {Q Q' : mm_Q} (hQ : ∀ r sh N, Q r sh N → Q' r sh N) (h : mm_Wp pf bd L xs C M Q X) : mm_Wp pf bd L xs C' M Q' X :=
  fun P hP => h P (fun Y hY => hP Y (mm_Step_mono pf bd L xs hC (fun _ z => z) hQ hY))
theorem mm_Cl_mono : ∀ d, mm_Mono (mm_Cl pf bd L xs pr d) (mm_Cl pf bd L xs pr d)
  | 0 => fun _ _ _ _ _ _ _ h => h.elim
  | d + 1 => fun _ _ _ _ _ _ hQ h => mm_Wp_mono pf bd L xs (mm_Cl_mono d) hQ h
theorem mm_Cl_up1 : ∀ d, mm_Mono (mm_Cl pf bd L xs pr d) (mm_Cl pf bd L xs pr (d + 1))
  | 0 => fun _ _ _ _ _ _ _ h => h.elim
  | d + 1 => fun _ _ _ _ _ _ hQ h => mm_Wp_mono pf bd L xs (mm_Cl_up1 d) hQ h
theorem mm_Cl_up {d d' : Nat} (hd : d ≤ d') : mm_Mono (mm_Cl pf bd L xs pr d) (mm_Cl pf bd L xs pr d') := by
  induction hd with
  | refl => exact mm_Cl_mono pf bd L xs pr d
  | step _ ih => exact fun y as sh N Q Q' hQ h => mm_Cl_up1 pf bd L xs pr _ y as sh N Q' Q' (fun _ _ _ z => z) (ih y as sh N Q Q' hQ h)
end MMS
section MMW
variable {pf : Nat → List (Option (Option Nat))} {bd : Nat → Nat × Nat} {L : Nat} {xs : Nat → Int} {pr : Nat → mm_M} {d : Nat} {M : mm_M} {Q : mm_Q} {X : mm_X}
theorem mm_in (h : mm_Step pf bd L xs (mm_Cl pf bd L xs pr d) M X (mm_Wp pf bd L xs (mm_Cl pf bd L xs pr d) M Q) Q) : mm_Wp pf bd L xs (mm_Cl pf bd L xs pr d) M Q X :=
  fun P hP => hP X (mm_Step_mono pf bd L xs (mm_Cl_mono pf bd L xs pr d) (fun _ hY => hY P hP) (fun _ _ _ z => z) h)
/-- some plain steps in a row -/
def mm_adv (pf : Nat → List (Option (Option Nat))) (bd : Nat → Nat × Nat) (L : Nat) (xs : Nat → Int) (M : mm_M) : Nat → mm_X → Option mm_X
  | 0, X => some X
  | k + 1, X => match mm_step pf bd L xs M X with
    | some (.inl Y) => mm_adv pf bd L xs M k Y
    | _ => none
theorem mm_go : ∀ (k : Nat) {X Y : mm_X}, mm_adv pf bd L xs M k X = some Y → mm_Wp pf bd L xs (mm_Cl pf bd L xs pr d) M Q Y → mm_Wp pf bd L xs (mm_Cl pf bd L xs pr d) M Q X
  | 0, X, Y, h, w => by
    cases h
    exact w
  | k + 1, X, Y, h, w => by
    unfold mm_adv at h
    split at h
    next Z hZ =>
      refine mm_in ?_
      unfold mm_Step
      rw [hZ]
      exact mm_go k h w
    next => cases h
theorem mm_cd {g : Prop} {Y : mm_X} (h : mm_step pf bd L xs M X = some (.inr (.inl (g, Y)))) (hg : g) (w : mm_Wp pf bd L xs (mm_Cl pf bd L xs pr d) M Q Y) : mm_Wp pf bd L xs (mm_Cl pf bd L xs pr d) M Q X := by
  refine mm_in ?_
  unfold mm_Step
  rw [h]
  exact ⟨hg, w⟩
theorem mm_rt {g : Prop} {r : Option mm_V} {sh : List mm_S} {N : mm_N} (h : mm_step pf bd L xs M X = some (.inr (.inr (.inl (g, r, sh, N))))) (hg : g) (w : Q r sh N) : mm_Wp pf bd L xs (mm_Cl pf bd L xs pr d) M Q X := by
  refine mm_in ?_
  unfold mm_Step
  rw [h]
  exact ⟨hg, w⟩
theorem mm_ca {g : Prop} {y : Nat} {as : List mm_V} {k : Option mm_V → List mm_S → mm_N → mm_X} (h : mm_step pf bd L xs M X = some (.inr (.inr (.inr (g, y, as, k))))) (hg : g) {Q' : mm_Q} {d' : Nat} (hd : d' ≤ d) (hc : mm_Cl pf bd L xs pr d' y as X.2.2.2.1 X.2.2.2.2.1 Q') (w : ∀ r sh N, Q' r sh N → mm_Wp pf bd L xs (mm_Cl pf bd L xs pr d) M Q (k r sh N)) : mm_Wp pf bd L xs (mm_Cl pf bd L xs pr d) M Q X := by
  refine mm_in ?_
  unfold mm_Step
  rw [h]
  exact ⟨hg, mm_Cl_up pf bd L xs pr hd _ _ _ _ _ _ w hc⟩
theorem mm_if {g : Prop} [hg : Decidable g] {a b : Nat} {r : List (Nat × mm_V) × List mm_V × List mm_S × mm_N × Nat × Nat} (h1 : g → mm_Wp pf bd L xs (mm_Cl pf bd L xs pr d) M Q (a, r)) (h2 : ¬ g → mm_Wp pf bd L xs (mm_Cl pf bd L xs pr d) M Q (b, r)) : mm_Wp pf bd L xs (mm_Cl pf bd L xs pr d) M Q (if g then a else b, r) := by
  by_cases h : g
  · rw [if_pos h]; exact h1 h
  · rw [if_neg h]; exact h2 h
end MMW
