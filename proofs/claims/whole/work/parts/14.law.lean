/-! THE CLAIM OUT OF ONE WALK OF THE LAW'S BODY. Your part is whole_start (and what it stands on); all else here is the same for every law, but numbers. -/
def R_law : String := "LoggedSagaDeskLaw"
def lw_P (b : Addr) (xs : List Int32) (args : Array Value) (s : State) : Prop := args = #[.ref b] ∧ s.IntsAt b xs ∧ xs.length ≤ 2560 ∧ (Jvm.Cond.and given_1 narrow_1).before args s = true
def lw_Q (_ : Array Value) (s : State) (o : Outcome) (t : State) : Prop := o = .returned (some (.int 1)) ∧ Framed s o t [] 600000 7302250
def lw_Z (below : List Frame) (a : Array Value) (s : State) : State → Prop := fun t => ∃ o, t.status = .running ∧ Ended t below o ∧ lw_Q a s o t
/-- the law's own end, with 1 on the stack, nothing written that was there before, its room as the claim has it -/
theorem lw_ret {p : Program} {l : Launch} {e : Env} {s : State} {m : MethodId} {below : List Frame} {meth : Method} {c : Code} {b : Nat} (hx : p.tables.exec = Jvm.exec) (hb : c.code = code) (hr : meth.sig.returnType = ret) (hlocks : meth.locks = false) {pc : Nat} {H : Heap} {ls : Array Slot} (hdg : decode code pc = .ok (.ireturn, 1)) : W p l e room_1 s m #[Value.ref b] below meth c H [] 600000 7302250 (lw_Z below #[Value.ref b] s) (F0 m pc ls [.int 1]) := by
  intro T hT X
  obtain ⟨fs, hret, hrun, hended, hW, hframe⟩ := X.leave (v := some (.int 1)) (hlocks := hlocks) (fun h => by rw [hr] at h; cases h)
  have hmeth' : T.vm.method? m = some meth := X.method'
  refine ⟨T.setFrames fs, ?_, .returned (some (.int 1)), hrun, hended, rfl, ⟨_, rfl⟩, hW, hframe⟩
  jvm_step X.here [X.here.top, hx, hb, hdg, hmeth', hr, ret, narrow_b1]
  (try refine ⟨rfl, ?_⟩); (try refine ⟨rfl, ?_⟩)
  first | (intro acts; rw [hret _ acts rfl rfl rfl]) | rw [hret _ _ rfl rfl rfl]
  exact Steps.refl _
/-- what holds at the law's entry: the machine, the code, the tables' words (any of lw_tbl by 'hts w (by decide +kernel)'), the script of L ints xs at the cell b, what the Statement gives of the start (any of its parts by flat_of_before) -/
def lw_At (p : Program) (s : State) (m : MethodId) (meth : Method) (c : Code) (b L : Nat) (xs : Nat → Int32) : Prop :=
  p.tables.exec = Jvm.exec ∧ c.code = code ∧ meth.sig.returnType = ret ∧ c.maxLocals = 4 ∧ s.vm.findClass R_law = some m.cls ∧ (∀ w ∈ lw_tbl, w.before #[Value.ref b] s = true) ∧ va_X b L xs s s.heap ∧ b < s.heap.size ∧ meth.locks = false ∧ (Jvm.Cond.and given_1 narrow_1).before #[Value.ref b] s = true
/-! the law at its entry -/
theorem lw_from (hlaw : ∀ (L : Nat) (xs : Nat → Int), L ≤ 2560 → (∀ j, mm_ir (xs j)) → lw_law L xs) {p : Program} {e : Env} {s : State} {m : MethodId} {below : List Frame} {meth : Method} {c : Code} (l : Launch) {b L : Nat} {xs : Nat → Int32} (hL : L ≤ 2560) (C0 : lw_At p s m meth c b L xs) : W p l e room_1 s m #[Value.ref b] below meth c s.heap [] 0 0 (lw_Z below #[Value.ref b] s) (entryFrame m ([Value.ref b] : List Value).toArray 4) := by
  obtain ⟨hx, hb, hr, hml, hown, hts, hX, hbl, hlocks, hgv⟩ := C0
  have hws : ∀ w ∈ mm_WS, w.before #[Value.ref b] s = true := fun w h => hts w (mm_WS_lw w h)
  obtain ⟨cc0, is0, kn0⟩ := u_known hws fi_0 (hts _ mm_in0)
  obtain ⟨cc1, is1, kn1⟩ := u_known hws fi_1 (hts _ mm_in1)
  obtain ⟨cc2, is2, kn2⟩ := u_known hws fi_2 (hts _ mm_in2)
  obtain ⟨cc3, is3, kn3⟩ := u_known hws fi_3 (hts _ mm_in3)
  obtain ⟨cc4, is4, kn4⟩ := u_known hws fi_4 (hts _ mm_in4)
  obtain ⟨cc5, is5, kn5⟩ := u_known hws fi_5 (hts _ mm_in5)
  obtain ⟨cc6, is6, kn6⟩ := u_known hws fi_6 (hts _ mm_in6)
  obtain ⟨cI, kI, pI, i1, i2, i3⟩ := Cond.arrayClass_spec (hts _ mm_acI)
  obtain ⟨cZ, kZ, pZ, z1, z2, z3⟩ := Cond.arrayClass_spec (hts _ mm_acZ)
  obtain ⟨pV, cV, kV, v1, -, v3, v4, v5⟩ := Cond.arrayOver_spec (hts _ mm_ao2)
  obtain ⟨pS, cS, kS, s1, -, s3, s4, s5⟩ := Cond.arrayOver_spec (hts _ mm_ao5)
  let D : va_G := (fun c => match c with | 0 => cc0 | 1 => cc1 | 2 => cc2 | 3 => cc3 | 4 => cc4 | 5 => cc5 | _ => cc6, fun c => match c with | 0 => is0 | 1 => is1 | 2 => is2 | 3 => is3 | 4 => is4 | 5 => is5 | _ => is6)
  let cT : Nat → ClassId := fun i => match i with | 0 => cI | 1 => cZ | 2 => cV | _ => cS
  have hK : va_K D mm_cl (mm_ty mm_cl cT) s := by
    refine ⟨fun a r hr => ?_, fun k q hk => ?_⟩
    · match a, hr with
      | 0, hr => cases hr; exact kn0
      | 1, hr => cases hr; exact kn1
      | 2, hr => cases hr; exact kn2
      | 3, hr => cases hr; exact kn3
      | 4, hr => cases hr; exact kn4
      | 5, hr => cases hr; exact kn5
      | 6, hr => cases hr; exact kn6
      | n + 7, hr => exact absurd (List.getElem?_eq_some_iff.mp hr).1 (by simp)
    · match k, hk with
      | 0, hk => cases hk; exact ⟨fun n z => ⟨fun k h => (by cases h), kI, i2, pI, i3⟩, i1⟩
      | 1, hk => cases hk; exact ⟨fun n z => ⟨fun k h => (by cases h), kZ, z2, pZ, z3⟩, z1⟩
      | 2, hk => cases hk; exact ⟨fun n z => ⟨fun k h => (by cases h), kV, v3, pV, v4⟩, kV, pV, v3, v4, v1, v5⟩
      | 3, hk => cases hk; exact ⟨fun n z => ⟨fun k h => (by cases h), kS, s3, pS, s4⟩, kS, pS, s3, s4, s1, s5⟩
      | n + 4, hk => exact absurd (List.getElem?_eq_some_iff.mp hk).1 (by simp [mm_ty])
  have hxs : ∀ j, mm_ir ((xs j).toInt) := fun j => mm_ir_to _
  have hLr : mm_ir (L : Int) := mm_ir_of (by omega) (by omega)
  have hXo : va_X b L (fun j => Int32.ofInt ((xs j).toInt)) s s.heap := by
    simp only [Int32.ofInt_toInt]
    exact hX
  have hmet := mm_met (l := l) (h0 := s.heap.size) (b0 := b) (D := D) (cT := cT) (L := L) (xs := fun j => (xs j).toInt) mm_okC0 mm_WS_good mm_codes hxs hLr mm_prs hbl 6
  have hG := hlaw L (fun j => (xs j).toInt) hL hxs (mm_G l mm_WS mm_cl mm_NWs D cT s.heap.size b L (fun j => (xs j).toInt) 6 m_W_law (fun r _ _ => r = some (.inl 1))) (fun X hX => mm_clo mm_okC0 mm_WS_good mm_codes hxs hLr ok_W_law hmet X hX)
  have hl := lv_entry ([Value.ref b]) (n := 4) (Nat.le_of_ble_eq_true rfl)
  rw [lg_entry_eq]
  refine hG p e room_1 s m _ below meth c (lw_Z below #[Value.ref b] s) ⟨hx, hb, hml, hown, hws, fun h => absurd h (by decide), ⟨hK, hXo, fun w hw => va_Nw.of rfl (hts _ (mm_nwin w hw)), va_AO.of (hts _ mm_ao2), va_AO.of (hts _ mm_ao5)⟩, ⟨hbl, Nat.le_refl _⟩, ⟨Nat.le_of_ble_eq_true rfl, Nat.le_of_ble_eq_true rfl, Nat.le_of_ble_eq_true rfl, Nat.le_of_ble_eq_true rfl⟩, ?_⟩ s.heap [] _ ⟨fun k q hk => (by simp [mm_w] at hk), rfl, va_S.rf, hl, Nat.zero_le _, fun _ _ => mm_ir0, trivial, fun q hq => (by simp at hq; rw [hq]; trivial), Nat.zero_le _, Nat.zero_le _⟩
  intro pc lv ce sl r sh1 N1 H locs ls hq hce hrc hH
  obtain ⟨gP, gz, gS, gl, g1, g2, g3, g4, g5, g6⟩ := hH
  have g5 : ce ≤ m_W_law.2.2.2.2.2.1 := g5
  have g6 : sl ≤ m_W_law.2.2.2.2.2.2 := g6
  have e5 : m_W_law.2.2.2.2.2.1 ≤ 600000 := Nat.le_of_ble_eq_true rfl
  have e6 : m_W_law.2.2.2.2.2.2 ≤ 7302250 := Nat.le_of_ble_eq_true rfl
  subst hq
  refine va_forget (fun q hq => gS.2.2 q hq) ?_
  refine W.widen (k := 600000) (n := 7302250) (Nat.le_trans g5 e5) (Nat.le_trans g6 e6) ?_
  rcases hrc with ⟨z, hz, hr2, hd⟩ | ⟨hz, -, -⟩
  · exact lw_ret hx hb hr hlocks hd
  · cases hz
