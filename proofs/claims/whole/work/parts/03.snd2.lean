
def mm_cn (cl : List vw_C) (ci : Nat) : String := match cl[ci]? with
  | some r => r.1
  | none => ""
def mm_ty (cl : List vw_C) (cT : Nat → ClassId) : List (ClassId × FieldType) := [(cT 0, .int), (cT 1, .boolean), (cT 2, .object (mm_cn cl 2)), (cT 3, .object (mm_cn cl 5))]
abbrev mm_NW : Type := List (String × Nat × MethodName × String)
def mm_K (cl : List vw_C) (NW : mm_NW) (D : va_G) (cT : Nat → ClassId) (b0 L : Nat) (xs : Nat → Int) (U : State) : Prop :=
  va_K D cl (mm_ty cl cT) U ∧ va_X b0 L (fun j => Int32.ofInt (xs j)) U U.heap ∧ (∀ w ∈ NW, va_Nw (.methodLinkNest w.1 w.2.1 w.2.2.1 w.2.2.2) U) ∧ va_AO (mm_cn cl 2) U ∧ va_AO (mm_cn cl 5) U
def mm_ok (M : mm_M) (X : mm_X) : Prop := X.2.2.2.1.length ≤ 900 ∧ (∀ a b, mm_ir (X.2.2.2.2.1 a b)) ∧ mm_ivs X.2.2.1 ∧ (∀ q ∈ X.2.1, mm_iv q.2) ∧ X.2.2.2.2.2.1 ≤ M.2.2.2.2.2.1 ∧ X.2.2.2.2.2.2 ≤ M.2.2.2.2.2.2
def mm_A (h0 : Nat) : Nat → Prop := fun q => h0 ≤ q
section MMG
variable (l : Launch) (WS : List Cond) (cl : List vw_C) (NW : mm_NW) (D : va_G) (cT : Nat → ClassId) (h0 b0 L : Nat) (xs : Nat → Int)
def mm_H (M : mm_M) (s : State) (X : mm_X) (H : Heap) (locs : List Loc) (ls : Array Slot) : Prop :=
  va_P D cl (mm_w h0 b0 cT X.2.2.2.1 X.2.2.2.2.1) H ∧ s.heap.size + X.2.2.2.2.2.1 = h0 + X.2.2.2.1.length ∧ va_S (mm_A h0) s.heap H locs ∧ lv_has ls M.2.2.1 (X.2.1.map (mm_l h0 b0)) ∧ mm_ok M X
def mm_rc (M : mm_M) (pc : Nat) (r : Option mm_V) : Prop := (∃ z, r = some (.inl z) ∧ (M.2.2.2.1 = some .int ∨ (M.2.2.2.1 = some .boolean ∧ (z = 0 ∨ z = 1))) ∧ decode M.2.1 pc = .ok (.ireturn, 1)) ∨ (r = none ∧ M.2.2.2.1 = none ∧ decode M.2.1 pc = .ok (.return_, 1))
def mm_ret (M : mm_M) (Q : mm_Q) (p : Program) (e : Env) (R : Room) (s : State) (m : MethodId) (args : Array Value) (below : List Frame) (meth : Method) (c : Code) (QQ : State → Prop) : Prop :=
  ∀ (pc : Nat) (lv : List (Nat × mm_V)) (ce sl : Nat) (r : Option mm_V) (sh : List mm_S) (N : mm_N) (H : Heap) (locs : List Loc) (ls : Array Slot), Q r sh N → ce = M.2.2.2.2.2.1 → mm_rc M pc r → mm_H cl D cT h0 b0 M s (pc, lv, r.toList, sh, N, ce, sl) H locs ls → W p l e R s m args below meth c H locs ce sl QQ (F0 m pc ls (r.toList.map (mm_v h0 b0)))
def mm_C (d : Nat) (M : mm_M) (Q : mm_Q) (p : Program) (e : Env) (R : Room) (s : State) (m : MethodId) (args : Array Value) (below : List Frame) (meth : Method) (c : Code) (QQ : State → Prop) : Prop :=
  p.tables.exec = Jvm.exec ∧ c.code = M.2.1 ∧ c.maxLocals = M.2.2.1 ∧ s.vm.findClass M.1.cls = some m.cls ∧ (∀ w ∈ WS, w.before args s = true) ∧ (M.1.name = "<init>" → meth.name = "<init>") ∧ mm_K cl NW D cT b0 L xs s ∧ (b0 < h0 ∧ h0 ≤ s.heap.size) ∧ (d + 1 ≤ R.frames ∧ 32 * (d + 1) ≤ R.locals ∧ M.2.2.2.2.2.1 ≤ R.cells ∧ M.2.2.2.2.2.2 ≤ R.slots) ∧ mm_ret l cl D cT h0 b0 M Q p e R s m args below meth c QQ
def mm_G (d : Nat) (M : mm_M) (Q : mm_Q) (X : mm_X) : Prop :=
  ∀ (p : Program) (e : Env) (R : Room) (s : State) (m : MethodId) (args : Array Value) (below : List Frame) (meth : Method) (c : Code) (QQ : State → Prop), mm_C l WS cl NW D cT h0 b0 L xs d M Q p e R s m args below meth c QQ → ∀ (H : Heap) (locs : List Loc) (ls : Array Slot), mm_H cl D cT h0 b0 M s X H locs ls → W p l e R s m args below meth c H locs X.2.2.2.2.2.1 X.2.2.2.2.2.2 QQ (F0 m X.1 ls (X.2.2.1.map (mm_v h0 b0)))
end MMG
section MMI
variable {l : Launch} {WS : List Cond} {cl : List vw_C} {NW : mm_NW} {D : va_G} {cT : Nat → ClassId} {h0 b0 L : Nat} {xs : Nat → Int}
variable {d : Nat} {M : mm_M} {Q : mm_Q} {pc ce sl : Nat} {lv : List (Nat × mm_V)} {st t : List mm_V} {sh : List mm_S} {N : mm_N}
theorem mm_s_iconst {n : Int} (hd : decode M.2.1 pc = .ok (.iconst n, 1)) (hn : mm_ir n) (k : mm_G l WS cl NW D cT h0 b0 L xs d M Q (pc + 1, lv, .inl n :: st, sh, N, ce, sl)) : mm_G l WS cl NW D cT h0 b0 L xs d M Q (pc, lv, st, sh, N, ce, sl) := by
  intro p e R s m args below meth c QQ hC H locs ls hH
  obtain ⟨hP, hz, hS, hl, ho1, ho2, ho3, ho4, ho5, ho6⟩ := hH
  have h := k p e R s m args below meth c QQ hC H locs ls ⟨hP, hz, hS, hl, ho1, ho2, ⟨hn, ho3⟩, ho4, ho5, ho6⟩
  show W p l e R s m args below meth c H locs ce sl QQ (F0 m pc ls (st.map (mm_v h0 b0)))
  refine lv_iconst (v := Int32.ofInt n) hC.1 hC.2.1 hd rfl ?_
  exact h
theorem mm_s_bipush {n : Int} (hd : decode M.2.1 pc = .ok (.bipush n, 2)) (hn : mm_ir n) (hn2 : (Int8.ofInt n).toInt32 = Int32.ofInt n) (k : mm_G l WS cl NW D cT h0 b0 L xs d M Q (pc + 2, lv, .inl n :: st, sh, N, ce, sl)) : mm_G l WS cl NW D cT h0 b0 L xs d M Q (pc, lv, st, sh, N, ce, sl) := by
  intro p e R s m args below meth c QQ hC H locs ls hH
  obtain ⟨hP, hz, hS, hl, ho1, ho2, ho3, ho4, ho5, ho6⟩ := hH
  have h := k p e R s m args below meth c QQ hC H locs ls ⟨hP, hz, hS, hl, ho1, ho2, ⟨hn, ho3⟩, ho4, ho5, ho6⟩
  show W p l e R s m args below meth c H locs ce sl QQ (F0 m pc ls (st.map (mm_v h0 b0)))
  refine lv_bipush (v := Int32.ofInt n) hC.1 hC.2.1 hd hn2 ?_
  exact h
theorem mm_s_sipush {n : Int} (hd : decode M.2.1 pc = .ok (.sipush n, 3)) (hn : mm_ir n) (hn2 : (Int16.ofInt n).toInt32 = Int32.ofInt n) (k : mm_G l WS cl NW D cT h0 b0 L xs d M Q (pc + 3, lv, .inl n :: st, sh, N, ce, sl)) : mm_G l WS cl NW D cT h0 b0 L xs d M Q (pc, lv, st, sh, N, ce, sl) := by
  intro p e R s m args below meth c QQ hC H locs ls hH
  obtain ⟨hP, hz, hS, hl, ho1, ho2, ho3, ho4, ho5, ho6⟩ := hH
  have h := k p e R s m args below meth c QQ hC H locs ls ⟨hP, hz, hS, hl, ho1, ho2, ⟨hn, ho3⟩, ho4, ho5, ho6⟩
  show W p l e R s m args below meth c H locs ce sl QQ (F0 m pc ls (st.map (mm_v h0 b0)))
  refine lv_sipush (v := Int32.ofInt n) hC.1 hC.2.1 hd hn2 ?_
  exact h
theorem mm_s_iload_n {k0 : Fin 4} {z : Int} (hd : decode M.2.1 pc = .ok (.iload_n k0, 1)) (hk : mm_lk lv k0.val = some (.inl z)) (k : mm_G l WS cl NW D cT h0 b0 L xs d M Q (pc + 1, lv, .inl z :: st, sh, N, ce, sl)) : mm_G l WS cl NW D cT h0 b0 L xs d M Q (pc, lv, st, sh, N, ce, sl) := by
  intro p e R s m args below meth c QQ hC H locs ls hH
  obtain ⟨hP, hz, hS, hl, ho1, ho2, ho3, ho4, ho5, ho6⟩ := hH
  have h := k p e R s m args below meth c QQ hC H locs ls ⟨hP, hz, hS, hl, ho1, ho2, ⟨ho4 _ (mm_lk_mem hk), ho3⟩, ho4, ho5, ho6⟩
  show W p l e R s m args below meth c H locs ce sl QQ (F0 m pc ls (st.map (mm_v h0 b0)))
  refine lv_iload_n hC.1 hC.2.1 hd rfl (mm_lv_at hl hk) ?_
  exact h
theorem mm_s_iload {k0 : Nat} {z : Int} (hd : decode M.2.1 pc = .ok (.iload k0, 2)) (hk : mm_lk lv k0 = some (.inl z)) (k : mm_G l WS cl NW D cT h0 b0 L xs d M Q (pc + 2, lv, .inl z :: st, sh, N, ce, sl)) : mm_G l WS cl NW D cT h0 b0 L xs d M Q (pc, lv, st, sh, N, ce, sl) := by
  intro p e R s m args below meth c QQ hC H locs ls hH
  obtain ⟨hP, hz, hS, hl, ho1, ho2, ho3, ho4, ho5, ho6⟩ := hH
  have h := k p e R s m args below meth c QQ hC H locs ls ⟨hP, hz, hS, hl, ho1, ho2, ⟨ho4 _ (mm_lk_mem hk), ho3⟩, ho4, ho5, ho6⟩
  show W p l e R s m args below meth c H locs ce sl QQ (F0 m pc ls (st.map (mm_v h0 b0)))
  refine lv_iload hC.1 hC.2.1 hd (mm_lv_at hl hk) ?_
  exact h
theorem mm_s_aload_n {k0 : Fin 4} {q : Nat} (hd : decode M.2.1 pc = .ok (.aload_n k0, 1)) (hk : mm_lk lv k0.val = some (.inr (some q))) (k : mm_G l WS cl NW D cT h0 b0 L xs d M Q (pc + 1, lv, .inr (some q) :: st, sh, N, ce, sl)) : mm_G l WS cl NW D cT h0 b0 L xs d M Q (pc, lv, st, sh, N, ce, sl) := by
  intro p e R s m args below meth c QQ hC H locs ls hH
  obtain ⟨hP, hz, hS, hl, ho1, ho2, ho3, ho4, ho5, ho6⟩ := hH
  have h := k p e R s m args below meth c QQ hC H locs ls ⟨hP, hz, hS, hl, ho1, ho2, ⟨trivial, ho3⟩, ho4, ho5, ho6⟩
  show W p l e R s m args below meth c H locs ce sl QQ (F0 m pc ls (st.map (mm_v h0 b0)))
  refine lv_aload_n hC.1 hC.2.1 hd rfl (mm_lv_at hl hk) ?_
  exact h
theorem mm_s_aload {k0 : Nat} {q : Nat} (hd : decode M.2.1 pc = .ok (.aload k0, 2)) (hk : mm_lk lv k0 = some (.inr (some q))) (k : mm_G l WS cl NW D cT h0 b0 L xs d M Q (pc + 2, lv, .inr (some q) :: st, sh, N, ce, sl)) : mm_G l WS cl NW D cT h0 b0 L xs d M Q (pc, lv, st, sh, N, ce, sl) := by
  intro p e R s m args below meth c QQ hC H locs ls hH
  obtain ⟨hP, hz, hS, hl, ho1, ho2, ho3, ho4, ho5, ho6⟩ := hH
  have h := k p e R s m args below meth c QQ hC H locs ls ⟨hP, hz, hS, hl, ho1, ho2, ⟨trivial, ho3⟩, ho4, ho5, ho6⟩
  show W p l e R s m args below meth c H locs ce sl QQ (F0 m pc ls (st.map (mm_v h0 b0)))
  refine lv_aload hC.1 hC.2.1 hd (mm_lv_at hl hk) ?_
  exact h
theorem mm_s_istore_n {k0 : Fin 4} {z : Int} (hd : decode M.2.1 pc = .ok (.istore_n k0, 1)) (hn : k0.val < M.2.2.1) (k : mm_G l WS cl NW D cT h0 b0 L xs d M Q (pc + 1, mm_st lv k0.val (.inl z), t, sh, N, ce, sl)) : mm_G l WS cl NW D cT h0 b0 L xs d M Q (pc, lv, .inl z :: t, sh, N, ce, sl) := by
  intro p e R s m args below meth c QQ hC H locs ls hH
  obtain ⟨hP, hz, hS, hl, ho1, ho2, ho3, ho4, ho5, ho6⟩ := hH
  show W p l e R s m args below meth c H locs ce sl QQ (F0 m pc ls (.int (Int32.ofInt z) :: t.map (mm_v h0 b0)))
  refine lv_istore_n hC.1 hC.2.1 hd rfl hl hn (mm_lv_st (v := .inl z)) fun ls2 hl2 => ?_
  exact k p e R s m args below meth c QQ hC H locs ls2 ⟨hP, hz, hS, hl2, ho1, ho2, ho3.2, mm_st_iv ho4 ho3.1, ho5, ho6⟩
theorem mm_s_istore {k0 : Nat} {z : Int} (hd : decode M.2.1 pc = .ok (.istore k0, 2)) (hn : k0 < M.2.2.1) (k : mm_G l WS cl NW D cT h0 b0 L xs d M Q (pc + 2, mm_st lv k0 (.inl z), t, sh, N, ce, sl)) : mm_G l WS cl NW D cT h0 b0 L xs d M Q (pc, lv, .inl z :: t, sh, N, ce, sl) := by
  intro p e R s m args below meth c QQ hC H locs ls hH
  obtain ⟨hP, hz, hS, hl, ho1, ho2, ho3, ho4, ho5, ho6⟩ := hH
  show W p l e R s m args below meth c H locs ce sl QQ (F0 m pc ls (.int (Int32.ofInt z) :: t.map (mm_v h0 b0)))
  refine lv_istore hC.1 hC.2.1 hd hl hn (mm_lv_st (v := .inl z)) fun ls2 hl2 => ?_
  exact k p e R s m args below meth c QQ hC H locs ls2 ⟨hP, hz, hS, hl2, ho1, ho2, ho3.2, mm_st_iv ho4 ho3.1, ho5, ho6⟩
theorem mm_s_astore_n {k0 : Fin 4} {q : Nat} (hd : decode M.2.1 pc = .ok (.astore_n k0, 1)) (hn : k0.val < M.2.2.1) (k : mm_G l WS cl NW D cT h0 b0 L xs d M Q (pc + 1, mm_st lv k0.val (.inr (some q)), t, sh, N, ce, sl)) : mm_G l WS cl NW D cT h0 b0 L xs d M Q (pc, lv, .inr (some q) :: t, sh, N, ce, sl) := by
  intro p e R s m args below meth c QQ hC H locs ls hH
  obtain ⟨hP, hz, hS, hl, ho1, ho2, ho3, ho4, ho5, ho6⟩ := hH
  show W p l e R s m args below meth c H locs ce sl QQ (F0 m pc ls (.ref (mm_ad h0 b0 q) :: t.map (mm_v h0 b0)))
  refine lv_astore_n hC.1 hC.2.1 hd rfl hl hn (mm_lv_st (v := .inr (some q))) fun ls2 hl2 => ?_
  exact k p e R s m args below meth c QQ hC H locs ls2 ⟨hP, hz, hS, hl2, ho1, ho2, ho3.2, mm_st_iv ho4 ho3.1, ho5, ho6⟩
theorem mm_s_astore {k0 : Nat} {q : Nat} (hd : decode M.2.1 pc = .ok (.astore k0, 2)) (hn : k0 < M.2.2.1) (k : mm_G l WS cl NW D cT h0 b0 L xs d M Q (pc + 2, mm_st lv k0 (.inr (some q)), t, sh, N, ce, sl)) : mm_G l WS cl NW D cT h0 b0 L xs d M Q (pc, lv, .inr (some q) :: t, sh, N, ce, sl) := by
  intro p e R s m args below meth c QQ hC H locs ls hH
  obtain ⟨hP, hz, hS, hl, ho1, ho2, ho3, ho4, ho5, ho6⟩ := hH
  show W p l e R s m args below meth c H locs ce sl QQ (F0 m pc ls (.ref (mm_ad h0 b0 q) :: t.map (mm_v h0 b0)))
  refine lv_astore hC.1 hC.2.1 hd hl hn (mm_lv_st (v := .inr (some q))) fun ls2 hl2 => ?_
  exact k p e R s m args below meth c QQ hC H locs ls2 ⟨hP, hz, hS, hl2, ho1, ho2, ho3.2, mm_st_iv ho4 ho3.1, ho5, ho6⟩
theorem mm_s_iinc {k0 : Nat} {n z : Int} (hd : decode M.2.1 pc = .ok (.iinc k0 n, 3)) (hn : k0 < M.2.2.1) (hk : mm_lk lv k0 = some (.inl z)) (k : mm_G l WS cl NW D cT h0 b0 L xs d M Q (pc + 3, mm_st lv k0 (.inl (mm_wr (z + n))), st, sh, N, ce, sl)) : mm_G l WS cl NW D cT h0 b0 L xs d M Q (pc, lv, st, sh, N, ce, sl) := by
  intro p e R s m args below meth c QQ hC H locs ls hH
  obtain ⟨hP, hz, hS, hl, ho1, ho2, ho3, ho4, ho5, ho6⟩ := hH
  obtain ⟨i, hi⟩ := List.getElem?_of_mem (List.mem_map.mpr ⟨(k0, Sum.inl z), mm_lk_mem hk, rfl⟩ : mm_l h0 b0 (k0, Sum.inl z) ∈ lv.map (mm_l h0 b0))
  refine lv_iinc (x := Int32.ofInt z) (v := Int32.ofInt (mm_wr (z + n))) hC.1 hC.2.1 hd hl hi (by rw [mm_of_wr, Int32.ofInt_add]) hn (mm_lv_st (v := .inl (mm_wr (z + n)))) fun ls2 hl2 => ?_
  exact k p e R s m args below meth c QQ hC H locs ls2 ⟨hP, hz, hS, hl2, ho1, ho2, ho3, mm_st_iv ho4 (mm_ir_wr _), ho5, ho6⟩
theorem mm_s_iadd {x y : Int} (hd : decode M.2.1 pc = .ok (.iadd, 1)) (k : mm_G l WS cl NW D cT h0 b0 L xs d M Q (pc + 1, lv, .inl (mm_wr (x + y)) :: t, sh, N, ce, sl)) : mm_G l WS cl NW D cT h0 b0 L xs d M Q (pc, lv, .inl y :: .inl x :: t, sh, N, ce, sl) := by
  intro p e R s m args below meth c QQ hC H locs ls hH
  obtain ⟨hP, hz, hS, hl, ho1, ho2, ho3, ho4, ho5, ho6⟩ := hH
  have h := k p e R s m args below meth c QQ hC H locs ls ⟨hP, hz, hS, hl, ho1, ho2, ⟨mm_ir_wr _, ho3.2.2⟩, ho4, ho5, ho6⟩
  show W p l e R s m args below meth c H locs ce sl QQ (F0 m pc ls (.int (Int32.ofInt y) :: .int (Int32.ofInt x) :: t.map (mm_v h0 b0)))
  refine lv_iadd hC.1 hC.2.1 hd ?_
  rw [show Int32.ofInt x + Int32.ofInt y = Int32.ofInt (mm_wr (x + y)) from by rw [mm_of_wr, Int32.ofInt_add]]
  exact h
theorem mm_s_isub {x y : Int} (hd : decode M.2.1 pc = .ok (.isub, 1)) (k : mm_G l WS cl NW D cT h0 b0 L xs d M Q (pc + 1, lv, .inl (mm_wr (x - y)) :: t, sh, N, ce, sl)) : mm_G l WS cl NW D cT h0 b0 L xs d M Q (pc, lv, .inl y :: .inl x :: t, sh, N, ce, sl) := by
  intro p e R s m args below meth c QQ hC H locs ls hH
  obtain ⟨hP, hz, hS, hl, ho1, ho2, ho3, ho4, ho5, ho6⟩ := hH
  have h := k p e R s m args below meth c QQ hC H locs ls ⟨hP, hz, hS, hl, ho1, ho2, ⟨mm_ir_wr _, ho3.2.2⟩, ho4, ho5, ho6⟩
  show W p l e R s m args below meth c H locs ce sl QQ (F0 m pc ls (.int (Int32.ofInt y) :: .int (Int32.ofInt x) :: t.map (mm_v h0 b0)))
  refine lv_isub hC.1 hC.2.1 hd ?_
  rw [show Int32.ofInt x - Int32.ofInt y = Int32.ofInt (mm_wr (x - y)) from by rw [mm_of_wr, Int32.ofInt_sub]]
  exact h
theorem mm_s_imul {x y : Int} (hd : decode M.2.1 pc = .ok (.imul, 1)) (k : mm_G l WS cl NW D cT h0 b0 L xs d M Q (pc + 1, lv, .inl (mm_wr (x * y)) :: t, sh, N, ce, sl)) : mm_G l WS cl NW D cT h0 b0 L xs d M Q (pc, lv, .inl y :: .inl x :: t, sh, N, ce, sl) := by
  intro p e R s m args below meth c QQ hC H locs ls hH
  obtain ⟨hP, hz, hS, hl, ho1, ho2, ho3, ho4, ho5, ho6⟩ := hH
  have h := k p e R s m args below meth c QQ hC H locs ls ⟨hP, hz, hS, hl, ho1, ho2, ⟨mm_ir_wr _, ho3.2.2⟩, ho4, ho5, ho6⟩
  show W p l e R s m args below meth c H locs ce sl QQ (F0 m pc ls (.int (Int32.ofInt y) :: .int (Int32.ofInt x) :: t.map (mm_v h0 b0)))
  refine lv_imul hC.1 hC.2.1 hd ?_
  rw [show Int32.ofInt x * Int32.ofInt y = Int32.ofInt (mm_wr (x * y)) from by rw [mm_of_wr, Int32.ofInt_mul]]
  exact h
theorem mm_s_ineg {x : Int} (hd : decode M.2.1 pc = .ok (.ineg, 1)) (k : mm_G l WS cl NW D cT h0 b0 L xs d M Q (pc + 1, lv, .inl (mm_wr (-x)) :: t, sh, N, ce, sl)) : mm_G l WS cl NW D cT h0 b0 L xs d M Q (pc, lv, .inl x :: t, sh, N, ce, sl) := by
  intro p e R s m args below meth c QQ hC H locs ls hH
  obtain ⟨hP, hz, hS, hl, ho1, ho2, ho3, ho4, ho5, ho6⟩ := hH
  have h := k p e R s m args below meth c QQ hC H locs ls ⟨hP, hz, hS, hl, ho1, ho2, ⟨mm_ir_wr _, ho3.2⟩, ho4, ho5, ho6⟩
  show W p l e R s m args below meth c H locs ce sl QQ (F0 m pc ls (.int (Int32.ofInt x) :: t.map (mm_v h0 b0)))
  refine lv_ineg hC.1 hC.2.1 hd ?_
  rw [show -Int32.ofInt x = Int32.ofInt (mm_wr (-x)) from by rw [mm_of_wr, Int32.ofInt_neg]]
  exact h
theorem mm_s_iand {x y : Int} (hd : decode M.2.1 pc = .ok (.iand, 1)) (k : mm_G l WS cl NW D cT h0 b0 L xs d M Q (pc + 1, lv, .inl (mm_and x y) :: t, sh, N, ce, sl)) : mm_G l WS cl NW D cT h0 b0 L xs d M Q (pc, lv, .inl y :: .inl x :: t, sh, N, ce, sl) := by
  intro p e R s m args below meth c QQ hC H locs ls hH
  obtain ⟨hP, hz, hS, hl, ho1, ho2, ho3, ho4, ho5, ho6⟩ := hH
  have h := k p e R s m args below meth c QQ hC H locs ls ⟨hP, hz, hS, hl, ho1, ho2, ⟨mm_ir_to _, ho3.2.2⟩, ho4, ho5, ho6⟩
  show W p l e R s m args below meth c H locs ce sl QQ (F0 m pc ls (.int (Int32.ofInt y) :: .int (Int32.ofInt x) :: t.map (mm_v h0 b0)))
  refine lv_iand hC.1 hC.2.1 hd ?_
  rw [show Int32.ofInt x &&& Int32.ofInt y = Int32.ofInt (mm_and x y) from by unfold mm_and; rw [Int32.ofInt_toInt]]
  exact h
theorem mm_s_idiv {x y : Int} (hd : decode M.2.1 pc = .ok (.idiv, 1)) (hy : y ≠ 0) (k : mm_G l WS cl NW D cT h0 b0 L xs d M Q (pc + 1, lv, .inl (mm_wr (x.tdiv y)) :: t, sh, N, ce, sl)) : mm_G l WS cl NW D cT h0 b0 L xs d M Q (pc, lv, .inl y :: .inl x :: t, sh, N, ce, sl) := by
  intro p e R s m args below meth c QQ hC H locs ls hH
  obtain ⟨hP, hz, hS, hl, ho1, ho2, ho3, ho4, ho5, ho6⟩ := hH
  have h := k p e R s m args below meth c QQ hC H locs ls ⟨hP, hz, hS, hl, ho1, ho2, ⟨mm_ir_wr _, ho3.2.2⟩, ho4, ho5, ho6⟩
  show W p l e R s m args below meth c H locs ce sl QQ (F0 m pc ls (.int (Int32.ofInt y) :: .int (Int32.ofInt x) :: t.map (mm_v h0 b0)))
  refine lv_idiv hC.1 hC.2.1 hd (fun q => hy ((mm_eq ho3.1 mm_ir0).mp (q.trans mm_zero))) ?_
  rw [show Int32.ofInt x / Int32.ofInt y = Int32.ofInt (mm_wr (x.tdiv y)) from mm_div ho3.2.1 ho3.1]
  exact h
theorem mm_s_irem {x y : Int} (hd : decode M.2.1 pc = .ok (.irem, 1)) (hy : y ≠ 0) (k : mm_G l WS cl NW D cT h0 b0 L xs d M Q (pc + 1, lv, .inl (mm_wr (x.tmod y)) :: t, sh, N, ce, sl)) : mm_G l WS cl NW D cT h0 b0 L xs d M Q (pc, lv, .inl y :: .inl x :: t, sh, N, ce, sl) := by
  intro p e R s m args below meth c QQ hC H locs ls hH
  obtain ⟨hP, hz, hS, hl, ho1, ho2, ho3, ho4, ho5, ho6⟩ := hH
  have h := k p e R s m args below meth c QQ hC H locs ls ⟨hP, hz, hS, hl, ho1, ho2, ⟨mm_ir_wr _, ho3.2.2⟩, ho4, ho5, ho6⟩
  show W p l e R s m args below meth c H locs ce sl QQ (F0 m pc ls (.int (Int32.ofInt y) :: .int (Int32.ofInt x) :: t.map (mm_v h0 b0)))
  refine lv_irem hC.1 hC.2.1 hd (fun q => hy ((mm_eq ho3.1 mm_ir0).mp (q.trans mm_zero))) ?_
  rw [show Int32.ofInt x - Int32.ofInt x / Int32.ofInt y * Int32.ofInt y = Int32.ofInt (mm_wr (x.tmod y)) from mm_rem ho3.2.1 ho3.1]
  exact h
theorem mm_s_dup {x : mm_V} (hd : decode M.2.1 pc = .ok (.dup, 1)) (k : mm_G l WS cl NW D cT h0 b0 L xs d M Q (pc + 1, lv, x :: x :: t, sh, N, ce, sl)) : mm_G l WS cl NW D cT h0 b0 L xs d M Q (pc, lv, x :: t, sh, N, ce, sl) := by
  intro p e R s m args below meth c QQ hC H locs ls hH
  obtain ⟨hP, hz, hS, hl, ho1, ho2, ho3, ho4, ho5, ho6⟩ := hH
  have h := k p e R s m args below meth c QQ hC H locs ls ⟨hP, hz, hS, hl, ho1, ho2, ⟨ho3.1, ho3⟩, ho4, ho5, ho6⟩
  show W p l e R s m args below meth c H locs ce sl QQ (F0 m pc ls (mm_v h0 b0 x :: t.map (mm_v h0 b0)))
  refine lv_dup hC.1 hC.2.1 hd (mm_v_cat h0 b0 x) ?_
  exact h
theorem mm_s_dup2 {x y : mm_V} (hd : decode M.2.1 pc = .ok (.dup2, 1)) (k : mm_G l WS cl NW D cT h0 b0 L xs d M Q (pc + 1, lv, x :: y :: x :: y :: t, sh, N, ce, sl)) : mm_G l WS cl NW D cT h0 b0 L xs d M Q (pc, lv, x :: y :: t, sh, N, ce, sl) := by
  intro p e R s m args below meth c QQ hC H locs ls hH
  obtain ⟨hP, hz, hS, hl, ho1, ho2, ho3, ho4, ho5, ho6⟩ := hH
  have h := k p e R s m args below meth c QQ hC H locs ls ⟨hP, hz, hS, hl, ho1, ho2, ⟨ho3.1, ho3.2.1, ho3⟩, ho4, ho5, ho6⟩
  show W p l e R s m args below meth c H locs ce sl QQ (F0 m pc ls (mm_v h0 b0 x :: mm_v h0 b0 y :: t.map (mm_v h0 b0)))
  refine lv_dup2_11 hC.1 hC.2.1 hd (mm_v_cat h0 b0 x) (mm_v_cat h0 b0 y) ?_
  exact h
theorem mm_s_pop {x : mm_V} (hd : decode M.2.1 pc = .ok (.pop, 1)) (k : mm_G l WS cl NW D cT h0 b0 L xs d M Q (pc + 1, lv, t, sh, N, ce, sl)) : mm_G l WS cl NW D cT h0 b0 L xs d M Q (pc, lv, x :: t, sh, N, ce, sl) := by
  intro p e R s m args below meth c QQ hC H locs ls hH
  obtain ⟨hP, hz, hS, hl, ho1, ho2, ho3, ho4, ho5, ho6⟩ := hH
  have h := k p e R s m args below meth c QQ hC H locs ls ⟨hP, hz, hS, hl, ho1, ho2, ho3.2, ho4, ho5, ho6⟩
  show W p l e R s m args below meth c H locs ce sl QQ (F0 m pc ls (mm_v h0 b0 x :: t.map (mm_v h0 b0)))
  refine lv_pop hC.1 hC.2.1 hd (mm_v_cat h0 b0 x) ?_
  exact h
theorem mm_s_goto {off : Int} {a : Nat} (hd : decode M.2.1 pc = .ok (.goto off, 3)) (ha : (pc : Int) + off = (a : Int)) (k : mm_G l WS cl NW D cT h0 b0 L xs d M Q (a, lv, st, sh, N, ce, sl)) : mm_G l WS cl NW D cT h0 b0 L xs d M Q (pc, lv, st, sh, N, ce, sl) := by
  intro p e R s m args below meth c QQ hC H locs ls hH
  obtain ⟨hP, hz, hS, hl, ho1, ho2, ho3, ho4, ho5, ho6⟩ := hH
  exact lv_goto hC.1 hC.2.1 hd ha (k p e R s m args below meth c QQ hC H locs ls ⟨hP, hz, hS, hl, ho1, ho2, ho3, ho4, ho5, ho6⟩)
theorem mm_s_if_eq {x : Int} {off : Int} {a : Nat} (hd : decode M.2.1 pc = .ok (.ifCond .eq off, 3)) (ha : (pc : Int) + off = (a : Int)) (k : mm_G l WS cl NW D cT h0 b0 L xs d M Q (if x = 0 then a else pc + 3, lv, t, sh, N, ce, sl)) : mm_G l WS cl NW D cT h0 b0 L xs d M Q (pc, lv, .inl x :: t, sh, N, ce, sl) := by
  intro p e R s m args below meth c QQ hC H locs ls hH
  obtain ⟨hP, hz, hS, hl, ho1, ho2, ho3, ho4, ho5, ho6⟩ := hH
  have h := k p e R s m args below meth c QQ hC H locs ls ⟨hP, hz, hS, hl, ho1, ho2, ho3.2, ho4, ho5, ho6⟩
  show W p l e R s m args below meth c H locs ce sl QQ (F0 m pc ls (.int (Int32.ofInt x) :: t.map (mm_v h0 b0)))
  refine lv_if_eq hC.1 hC.2.1 hd ha (fun hq => ?_) (fun hq => ?_)
  · have hg := (mm_eq ho3.1 mm_ir0).mp (hq.trans mm_zero)
    have h : W p l e R s m args below meth c H locs ce sl QQ (F0 m (if x = 0 then a else pc + 3) ls (t.map (mm_v h0 b0))) := h
    rw [if_pos hg] at h
    exact h
  · have hg := fun z0 : x = 0 => hq (((mm_eq ho3.1 mm_ir0).mpr z0).trans mm_zero.symm)
    have h : W p l e R s m args below meth c H locs ce sl QQ (F0 m (if x = 0 then a else pc + 3) ls (t.map (mm_v h0 b0))) := h
    rw [if_neg hg] at h
    exact h
theorem mm_s_if_ne {x : Int} {off : Int} {a : Nat} (hd : decode M.2.1 pc = .ok (.ifCond .ne off, 3)) (ha : (pc : Int) + off = (a : Int)) (k : mm_G l WS cl NW D cT h0 b0 L xs d M Q (if x = 0 then pc + 3 else a, lv, t, sh, N, ce, sl)) : mm_G l WS cl NW D cT h0 b0 L xs d M Q (pc, lv, .inl x :: t, sh, N, ce, sl) := by
  intro p e R s m args below meth c QQ hC H locs ls hH
  obtain ⟨hP, hz, hS, hl, ho1, ho2, ho3, ho4, ho5, ho6⟩ := hH
  have h := k p e R s m args below meth c QQ hC H locs ls ⟨hP, hz, hS, hl, ho1, ho2, ho3.2, ho4, ho5, ho6⟩
  show W p l e R s m args below meth c H locs ce sl QQ (F0 m pc ls (.int (Int32.ofInt x) :: t.map (mm_v h0 b0)))
  refine lv_if_ne hC.1 hC.2.1 hd ha (fun hq => ?_) (fun hq => ?_)
  · have hg := fun z0 : x = 0 => hq (((mm_eq ho3.1 mm_ir0).mpr z0).trans mm_zero.symm)
    have h : W p l e R s m args below meth c H locs ce sl QQ (F0 m (if x = 0 then pc + 3 else a) ls (t.map (mm_v h0 b0))) := h
    rw [if_neg hg] at h
    exact h
  · have hg := (mm_eq ho3.1 mm_ir0).mp (hq.trans mm_zero)
    have h : W p l e R s m args below meth c H locs ce sl QQ (F0 m (if x = 0 then pc + 3 else a) ls (t.map (mm_v h0 b0))) := h
    rw [if_pos hg] at h
    exact h
theorem mm_s_if_lt {x : Int} {off : Int} {a : Nat} (hd : decode M.2.1 pc = .ok (.ifCond .lt off, 3)) (ha : (pc : Int) + off = (a : Int)) (k : mm_G l WS cl NW D cT h0 b0 L xs d M Q (if x < 0 then a else pc + 3, lv, t, sh, N, ce, sl)) : mm_G l WS cl NW D cT h0 b0 L xs d M Q (pc, lv, .inl x :: t, sh, N, ce, sl) := by
  intro p e R s m args below meth c QQ hC H locs ls hH
  obtain ⟨hP, hz, hS, hl, ho1, ho2, ho3, ho4, ho5, ho6⟩ := hH
  have h := k p e R s m args below meth c QQ hC H locs ls ⟨hP, hz, hS, hl, ho1, ho2, ho3.2, ho4, ho5, ho6⟩
  show W p l e R s m args below meth c H locs ce sl QQ (F0 m pc ls (.int (Int32.ofInt x) :: t.map (mm_v h0 b0)))
  refine lv_if_lt hC.1 hC.2.1 hd ha (fun hq => ?_) (fun hq => ?_)
  · have hg := (mm_lt ho3.1 mm_ir0).mp (mm_zero ▸ hq)
    have h : W p l e R s m args below meth c H locs ce sl QQ (F0 m (if x < 0 then a else pc + 3) ls (t.map (mm_v h0 b0))) := h
    rw [if_pos hg] at h
    exact h
  · have hg := fun z0 : x < 0 => hq (mm_zero ▸ (mm_lt ho3.1 mm_ir0).mpr z0)
    have h : W p l e R s m args below meth c H locs ce sl QQ (F0 m (if x < 0 then a else pc + 3) ls (t.map (mm_v h0 b0))) := h
    rw [if_neg hg] at h
    exact h
theorem mm_s_if_ge {x : Int} {off : Int} {a : Nat} (hd : decode M.2.1 pc = .ok (.ifCond .ge off, 3)) (ha : (pc : Int) + off = (a : Int)) (k : mm_G l WS cl NW D cT h0 b0 L xs d M Q (if x < 0 then pc + 3 else a, lv, t, sh, N, ce, sl)) : mm_G l WS cl NW D cT h0 b0 L xs d M Q (pc, lv, .inl x :: t, sh, N, ce, sl) := by
  intro p e R s m args below meth c QQ hC H locs ls hH
  obtain ⟨hP, hz, hS, hl, ho1, ho2, ho3, ho4, ho5, ho6⟩ := hH
  have h := k p e R s m args below meth c QQ hC H locs ls ⟨hP, hz, hS, hl, ho1, ho2, ho3.2, ho4, ho5, ho6⟩
  show W p l e R s m args below meth c H locs ce sl QQ (F0 m pc ls (.int (Int32.ofInt x) :: t.map (mm_v h0 b0)))
  refine lv_if_ge hC.1 hC.2.1 hd ha (fun hq => ?_) (fun hq => ?_)
  · have hg := fun z0 : x < 0 => Int32.not_lt.mpr hq (mm_zero ▸ (mm_lt ho3.1 mm_ir0).mpr z0)
    have h : W p l e R s m args below meth c H locs ce sl QQ (F0 m (if x < 0 then pc + 3 else a) ls (t.map (mm_v h0 b0))) := h
    rw [if_neg hg] at h
    exact h
  · have hg := (mm_lt ho3.1 mm_ir0).mp (mm_zero ▸ Int32.not_le.mp hq)
    have h : W p l e R s m args below meth c H locs ce sl QQ (F0 m (if x < 0 then pc + 3 else a) ls (t.map (mm_v h0 b0))) := h
    rw [if_pos hg] at h
    exact h
theorem mm_s_if_gt {x : Int} {off : Int} {a : Nat} (hd : decode M.2.1 pc = .ok (.ifCond .gt off, 3)) (ha : (pc : Int) + off = (a : Int)) (k : mm_G l WS cl NW D cT h0 b0 L xs d M Q (if 0 < x then a else pc + 3, lv, t, sh, N, ce, sl)) : mm_G l WS cl NW D cT h0 b0 L xs d M Q (pc, lv, .inl x :: t, sh, N, ce, sl) := by
  intro p e R s m args below meth c QQ hC H locs ls hH
  obtain ⟨hP, hz, hS, hl, ho1, ho2, ho3, ho4, ho5, ho6⟩ := hH
  have h := k p e R s m args below meth c QQ hC H locs ls ⟨hP, hz, hS, hl, ho1, ho2, ho3.2, ho4, ho5, ho6⟩
  show W p l e R s m args below meth c H locs ce sl QQ (F0 m pc ls (.int (Int32.ofInt x) :: t.map (mm_v h0 b0)))
  refine lv_if_gt hC.1 hC.2.1 hd ha (fun hq => ?_) (fun hq => ?_)
  · have hg := (mm_lt mm_ir0 ho3.1).mp (mm_zero ▸ hq)
    have h : W p l e R s m args below meth c H locs ce sl QQ (F0 m (if 0 < x then a else pc + 3) ls (t.map (mm_v h0 b0))) := h
    rw [if_pos hg] at h
    exact h
  · have hg := fun z0 : 0 < x => hq (mm_zero ▸ (mm_lt mm_ir0 ho3.1).mpr z0)
    have h : W p l e R s m args below meth c H locs ce sl QQ (F0 m (if 0 < x then a else pc + 3) ls (t.map (mm_v h0 b0))) := h
    rw [if_neg hg] at h
    exact h
theorem mm_s_if_le {x : Int} {off : Int} {a : Nat} (hd : decode M.2.1 pc = .ok (.ifCond .le off, 3)) (ha : (pc : Int) + off = (a : Int)) (k : mm_G l WS cl NW D cT h0 b0 L xs d M Q (if 0 < x then pc + 3 else a, lv, t, sh, N, ce, sl)) : mm_G l WS cl NW D cT h0 b0 L xs d M Q (pc, lv, .inl x :: t, sh, N, ce, sl) := by
  intro p e R s m args below meth c QQ hC H locs ls hH
  obtain ⟨hP, hz, hS, hl, ho1, ho2, ho3, ho4, ho5, ho6⟩ := hH
  have h := k p e R s m args below meth c QQ hC H locs ls ⟨hP, hz, hS, hl, ho1, ho2, ho3.2, ho4, ho5, ho6⟩
  show W p l e R s m args below meth c H locs ce sl QQ (F0 m pc ls (.int (Int32.ofInt x) :: t.map (mm_v h0 b0)))
  refine lv_if_le hC.1 hC.2.1 hd ha (fun hq => ?_) (fun hq => ?_)
  · have hg := fun z0 : 0 < x => Int32.not_lt.mpr hq (mm_zero ▸ (mm_lt mm_ir0 ho3.1).mpr z0)
    have h : W p l e R s m args below meth c H locs ce sl QQ (F0 m (if 0 < x then pc + 3 else a) ls (t.map (mm_v h0 b0))) := h
    rw [if_neg hg] at h
    exact h
  · have hg := (mm_lt mm_ir0 ho3.1).mp (mm_zero ▸ Int32.not_le.mp hq)
    have h : W p l e R s m args below meth c H locs ce sl QQ (F0 m (if 0 < x then pc + 3 else a) ls (t.map (mm_v h0 b0))) := h
    rw [if_pos hg] at h
    exact h
theorem mm_s_icmp_eq {x y : Int} {off : Int} {a : Nat} (hd : decode M.2.1 pc = .ok (.if_icmp .eq off, 3)) (ha : (pc : Int) + off = (a : Int)) (k : mm_G l WS cl NW D cT h0 b0 L xs d M Q (if x = y then a else pc + 3, lv, t, sh, N, ce, sl)) : mm_G l WS cl NW D cT h0 b0 L xs d M Q (pc, lv, .inl y :: .inl x :: t, sh, N, ce, sl) := by
  intro p e R s m args below meth c QQ hC H locs ls hH
  obtain ⟨hP, hz, hS, hl, ho1, ho2, ho3, ho4, ho5, ho6⟩ := hH
  have h := k p e R s m args below meth c QQ hC H locs ls ⟨hP, hz, hS, hl, ho1, ho2, ho3.2.2, ho4, ho5, ho6⟩
  show W p l e R s m args below meth c H locs ce sl QQ (F0 m pc ls (.int (Int32.ofInt y) :: .int (Int32.ofInt x) :: t.map (mm_v h0 b0)))
  refine lv_icmp_eq hC.1 hC.2.1 hd ha (fun hq => ?_) (fun hq => ?_)
  · have hg := (mm_eq ho3.2.1 ho3.1).mp hq
    have h : W p l e R s m args below meth c H locs ce sl QQ (F0 m (if x = y then a else pc + 3) ls (t.map (mm_v h0 b0))) := h
    rw [if_pos hg] at h
    exact h
  · have hg := fun z0 : x = y => hq ((mm_eq ho3.2.1 ho3.1).mpr z0)
    have h : W p l e R s m args below meth c H locs ce sl QQ (F0 m (if x = y then a else pc + 3) ls (t.map (mm_v h0 b0))) := h
    rw [if_neg hg] at h
    exact h
theorem mm_s_icmp_ne {x y : Int} {off : Int} {a : Nat} (hd : decode M.2.1 pc = .ok (.if_icmp .ne off, 3)) (ha : (pc : Int) + off = (a : Int)) (k : mm_G l WS cl NW D cT h0 b0 L xs d M Q (if x = y then pc + 3 else a, lv, t, sh, N, ce, sl)) : mm_G l WS cl NW D cT h0 b0 L xs d M Q (pc, lv, .inl y :: .inl x :: t, sh, N, ce, sl) := by
  intro p e R s m args below meth c QQ hC H locs ls hH
  obtain ⟨hP, hz, hS, hl, ho1, ho2, ho3, ho4, ho5, ho6⟩ := hH
  have h := k p e R s m args below meth c QQ hC H locs ls ⟨hP, hz, hS, hl, ho1, ho2, ho3.2.2, ho4, ho5, ho6⟩
  show W p l e R s m args below meth c H locs ce sl QQ (F0 m pc ls (.int (Int32.ofInt y) :: .int (Int32.ofInt x) :: t.map (mm_v h0 b0)))
  refine lv_icmp_ne hC.1 hC.2.1 hd ha (fun hq => ?_) (fun hq => ?_)
  · have hg := fun z0 : x = y => hq ((mm_eq ho3.2.1 ho3.1).mpr z0)
    have h : W p l e R s m args below meth c H locs ce sl QQ (F0 m (if x = y then pc + 3 else a) ls (t.map (mm_v h0 b0))) := h
    rw [if_neg hg] at h
    exact h
  · have hg := (mm_eq ho3.2.1 ho3.1).mp hq
    have h : W p l e R s m args below meth c H locs ce sl QQ (F0 m (if x = y then pc + 3 else a) ls (t.map (mm_v h0 b0))) := h
    rw [if_pos hg] at h
    exact h
theorem mm_s_icmp_lt {x y : Int} {off : Int} {a : Nat} (hd : decode M.2.1 pc = .ok (.if_icmp .lt off, 3)) (ha : (pc : Int) + off = (a : Int)) (k : mm_G l WS cl NW D cT h0 b0 L xs d M Q (if x < y then a else pc + 3, lv, t, sh, N, ce, sl)) : mm_G l WS cl NW D cT h0 b0 L xs d M Q (pc, lv, .inl y :: .inl x :: t, sh, N, ce, sl) := by
  intro p e R s m args below meth c QQ hC H locs ls hH
  obtain ⟨hP, hz, hS, hl, ho1, ho2, ho3, ho4, ho5, ho6⟩ := hH
  have h := k p e R s m args below meth c QQ hC H locs ls ⟨hP, hz, hS, hl, ho1, ho2, ho3.2.2, ho4, ho5, ho6⟩
  show W p l e R s m args below meth c H locs ce sl QQ (F0 m pc ls (.int (Int32.ofInt y) :: .int (Int32.ofInt x) :: t.map (mm_v h0 b0)))
  refine lv_icmp_lt hC.1 hC.2.1 hd ha (fun hq => ?_) (fun hq => ?_)
  · have hg := (mm_lt ho3.2.1 ho3.1).mp hq
    have h : W p l e R s m args below meth c H locs ce sl QQ (F0 m (if x < y then a else pc + 3) ls (t.map (mm_v h0 b0))) := h
    rw [if_pos hg] at h
    exact h
  · have hg := fun z0 : x < y => hq ((mm_lt ho3.2.1 ho3.1).mpr z0)
    have h : W p l e R s m args below meth c H locs ce sl QQ (F0 m (if x < y then a else pc + 3) ls (t.map (mm_v h0 b0))) := h
    rw [if_neg hg] at h
    exact h
theorem mm_s_icmp_ge {x y : Int} {off : Int} {a : Nat} (hd : decode M.2.1 pc = .ok (.if_icmp .ge off, 3)) (ha : (pc : Int) + off = (a : Int)) (k : mm_G l WS cl NW D cT h0 b0 L xs d M Q (if x < y then pc + 3 else a, lv, t, sh, N, ce, sl)) : mm_G l WS cl NW D cT h0 b0 L xs d M Q (pc, lv, .inl y :: .inl x :: t, sh, N, ce, sl) := by
  intro p e R s m args below meth c QQ hC H locs ls hH
  obtain ⟨hP, hz, hS, hl, ho1, ho2, ho3, ho4, ho5, ho6⟩ := hH
  have h := k p e R s m args below meth c QQ hC H locs ls ⟨hP, hz, hS, hl, ho1, ho2, ho3.2.2, ho4, ho5, ho6⟩
  show W p l e R s m args below meth c H locs ce sl QQ (F0 m pc ls (.int (Int32.ofInt y) :: .int (Int32.ofInt x) :: t.map (mm_v h0 b0)))
  refine lv_icmp_ge hC.1 hC.2.1 hd ha (fun hq => ?_) (fun hq => ?_)
  · have hg := fun z0 : x < y => Int32.not_lt.mpr hq ((mm_lt ho3.2.1 ho3.1).mpr z0)
    have h : W p l e R s m args below meth c H locs ce sl QQ (F0 m (if x < y then pc + 3 else a) ls (t.map (mm_v h0 b0))) := h
    rw [if_neg hg] at h
    exact h
  · have hg := (mm_lt ho3.2.1 ho3.1).mp (Int32.not_le.mp hq)
    have h : W p l e R s m args below meth c H locs ce sl QQ (F0 m (if x < y then pc + 3 else a) ls (t.map (mm_v h0 b0))) := h
    rw [if_pos hg] at h
    exact h
theorem mm_s_icmp_gt {x y : Int} {off : Int} {a : Nat} (hd : decode M.2.1 pc = .ok (.if_icmp .gt off, 3)) (ha : (pc : Int) + off = (a : Int)) (k : mm_G l WS cl NW D cT h0 b0 L xs d M Q (if y < x then a else pc + 3, lv, t, sh, N, ce, sl)) : mm_G l WS cl NW D cT h0 b0 L xs d M Q (pc, lv, .inl y :: .inl x :: t, sh, N, ce, sl) := by
  intro p e R s m args below meth c QQ hC H locs ls hH
  obtain ⟨hP, hz, hS, hl, ho1, ho2, ho3, ho4, ho5, ho6⟩ := hH
  have h := k p e R s m args below meth c QQ hC H locs ls ⟨hP, hz, hS, hl, ho1, ho2, ho3.2.2, ho4, ho5, ho6⟩
  show W p l e R s m args below meth c H locs ce sl QQ (F0 m pc ls (.int (Int32.ofInt y) :: .int (Int32.ofInt x) :: t.map (mm_v h0 b0)))
  refine lv_icmp_gt hC.1 hC.2.1 hd ha (fun hq => ?_) (fun hq => ?_)
  · have hg := (mm_lt ho3.1 ho3.2.1).mp hq
    have h : W p l e R s m args below meth c H locs ce sl QQ (F0 m (if y < x then a else pc + 3) ls (t.map (mm_v h0 b0))) := h
    rw [if_pos hg] at h
    exact h
  · have hg := fun z0 : y < x => hq ((mm_lt ho3.1 ho3.2.1).mpr z0)
    have h : W p l e R s m args below meth c H locs ce sl QQ (F0 m (if y < x then a else pc + 3) ls (t.map (mm_v h0 b0))) := h
    rw [if_neg hg] at h
    exact h
theorem mm_s_icmp_le {x y : Int} {off : Int} {a : Nat} (hd : decode M.2.1 pc = .ok (.if_icmp .le off, 3)) (ha : (pc : Int) + off = (a : Int)) (k : mm_G l WS cl NW D cT h0 b0 L xs d M Q (if y < x then pc + 3 else a, lv, t, sh, N, ce, sl)) : mm_G l WS cl NW D cT h0 b0 L xs d M Q (pc, lv, .inl y :: .inl x :: t, sh, N, ce, sl) := by
  intro p e R s m args below meth c QQ hC H locs ls hH
  obtain ⟨hP, hz, hS, hl, ho1, ho2, ho3, ho4, ho5, ho6⟩ := hH
  have h := k p e R s m args below meth c QQ hC H locs ls ⟨hP, hz, hS, hl, ho1, ho2, ho3.2.2, ho4, ho5, ho6⟩
  show W p l e R s m args below meth c H locs ce sl QQ (F0 m pc ls (.int (Int32.ofInt y) :: .int (Int32.ofInt x) :: t.map (mm_v h0 b0)))
  refine lv_icmp_le hC.1 hC.2.1 hd ha (fun hq => ?_) (fun hq => ?_)
  · have hg := fun z0 : y < x => Int32.not_lt.mpr hq ((mm_lt ho3.1 ho3.2.1).mpr z0)
    have h : W p l e R s m args below meth c H locs ce sl QQ (F0 m (if y < x then pc + 3 else a) ls (t.map (mm_v h0 b0))) := h
    rw [if_neg hg] at h
    exact h
  · have hg := (mm_lt ho3.1 ho3.2.1).mp (Int32.not_le.mp hq)
    have h : W p l e R s m args below meth c H locs ce sl QQ (F0 m (if y < x then pc + 3 else a) ls (t.map (mm_v h0 b0))) := h
    rw [if_pos hg] at h
    exact h
end MMI
