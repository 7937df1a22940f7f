/-! calls and ends -/
section MML
variable (l : Launch) (WS : List Cond) (cl : List vw_C) (NW : mm_NW) (D : va_G) (cT : Nat → ClassId) (h0 b0 L : Nat) (xs : Nat → Int)
def mm_ws (M : mm_M) : List Cond := Cond.code M.1 M.2.1 M.2.2.1 M.2.2.2.1 :: WS
def mm_rm (d : Nat) (M : mm_M) : Room := { frames := d + 1, cells := M.2.2.2.2.2.1, slots := M.2.2.2.2.2.2, locals := 32 * (d + 1) }
def mm_Pc (as : List mm_V) (sh : List mm_S) (N : mm_N) : Array Value → State → Prop := fun v U => v = (as.map (mm_v h0 b0)).toArray ∧ va_P D cl (mm_w h0 b0 cT sh N) U.heap ∧ U.heap.size = h0 + sh.length ∧ mm_K cl NW D cT b0 L xs U
def mm_Qc (Q : mm_Q) (n0 : Nat) : Array Value → State → Outcome → State → Prop := fun _ st oc t => ∃ (r : Option mm_V) (sh : List mm_S) (N : mm_N), oc = .returned (r.map (mm_v h0 b0)) ∧ Q r sh N ∧ va_P D cl (mm_w h0 b0 cT sh N) t.heap ∧ sh.length = n0 ∧ sh.length ≤ 900 ∧ (∀ a b, mm_ir (N a b)) ∧ mm_ivs r.toList ∧ va_F (mm_A h0) st t
def mm_Met (d : Nat) (M : mm_M) (Q : mm_Q) (as : List mm_V) (sh : List mm_S) (N : mm_N) : Prop :=
  Met l M.1 (mm_ws WS M) (mm_rm d M) (mm_Pc cl NW D cT h0 b0 L xs as sh N) (mm_Qc cl D cT h0 b0 Q (sh.length + M.2.2.2.2.2.1)) M.2.2.2.2.2.1 M.2.2.2.2.2.2 (mm_A h0)
end MML
section MMO
variable {l : Launch} {WS : List Cond} {cl : List vw_C} {NW : mm_NW} {D : va_G} {cT : Nat → ClassId} {h0 b0 L : Nat} {xs : Nat → Int}
variable {d : Nat} {M : mm_M} {Q : mm_Q} {pc ce sl : Nat} {lv : List (Nat × mm_V)} {st t : List mm_V} {sh : List mm_S} {N : mm_N}
theorem mm_tl {r : Option mm_V} : (r.map (mm_v h0 b0)).toList = r.toList.map (mm_v h0 b0) := by cases r <;> rfl
theorem mm_cont {p : Program} {e : Env} {R : Room} {s : State} {m : MethodId} {args : Array Value} {below : List Frame} {meth : Method} {c : Code} {H : Heap} {locs : List Loc} {QQ : State → Prop} {ls : Array Slot} {st0 rest : List Value} {a : Array Value} {Qm : mm_Q} {n0 mc ms : Nat}
    (hr : va_Run p l e R s m args below meth c H locs ce sl mc ms (F0 m pc ls st0) rest (mm_Qc cl D cT h0 b0 Qm n0 a) (mm_A h0)) (hS : va_S (mm_A h0) s.heap H locs)
    (kk : ∀ (r : Option mm_V) (sh : List mm_S) (N : mm_N) (H1 : Heap) (locs1 : List Loc), Qm r sh N → va_P D cl (mm_w h0 b0 cT sh N) H1 → sh.length = n0 → sh.length ≤ 900 → (∀ a b, mm_ir (N a b)) → mm_ivs r.toList → va_S (mm_A h0) s.heap H1 locs1 → W p l e R s m args below meth c H1 locs1 (ce + mc) (sl + ms) QQ (F0 m (pc + 3) ls (r.toList.map (mm_v h0 b0) ++ rest))) : W p l e R s m args below meth c H locs ce sl QQ (F0 m pc ls st0) := by
  intro T hT X
  obtain ⟨v, st₀, t, T', L0, h9, X', hL, e1, e2, ⟨r, sh, N, hv, hq, hP, h1, h2, h3, h4, hF⟩, stp⟩ := hr T hT X
  have hv : v = r.map (mm_v h0 b0) := by
    injection hv
  subst hv
  obtain ⟨hz, hk⟩ := hF
  rw [h9] at hz hk
  obtain ⟨t2, a1, b1⟩ := kk r sh N T'.heap (locs ++ L0) hq (by rw [e1]; exact hP) h1 h2 h3 h4 ⟨by rw [e1]; exact Nat.le_trans hS.1 hz, fun q g1 g2 => by rw [e1, hk q (Nat.lt_of_lt_of_le g1 hS.1) g2]; exact hS.2.1 q g1 g2, fun q hq => by
    rcases List.mem_append.mp hq with h | h
    · exact hS.2.2 q h
    · exact hL q h⟩ T' rfl X'
  refine ⟨t2, stp t2 ?_, b1⟩
  rw [mm_tl]
  exact a1
theorem mm_K_same {U V : State} (hv : U.vm = V.vm) (hh : U.heap = V.heap) (h : mm_K cl NW D cT b0 L xs U) : mm_K cl NW D cT b0 L xs V := by
  obtain ⟨k1, k2, k3, k4, k5⟩ := h
  have ha : U.vm.Alike V.vm := by rw [hv]; exact Vm.Alike.refl V.vm
  exact ⟨va_K.moved ha k1, by rw [← hh]; exact va_X.moved ha k2, fun w hw => va_Nw.same rfl hv (k3 w hw), va_AO.moved ha k4, va_AO.moved ha k5⟩
theorem mm_blind {as : List mm_V} : FrameBlind (mm_Pc cl NW D cT h0 b0 L xs as sh N) := by
  intro a U g mk h
  obtain ⟨q0, q1, q2, q3⟩ := h
  exact ⟨q0, q1, q2, mm_K_same (U := U) (V := U.calling g mk a) rfl rfl q3⟩
theorem mm_K_warm {s U : State} {H : Heap} {locs : List Loc} (hK : mm_K cl NW D cT b0 L xs s) (hS : va_S (mm_A h0) s.heap H locs) (hb : b0 < h0 ∧ h0 ≤ s.heap.size) (hU : U.heap = H) (hW : s.WarmedH U.vm) : mm_K cl NW D cT b0 L xs U := by
  obtain ⟨k1, k2, k3, k4, k5⟩ := hK
  have hX : va_X b0 L (fun j => Int32.ofInt (xs j)) s H := k2.kept (hS.2.1 b0 (by omega) (fun z => by have z : h0 ≤ b0 := z; omega))
  exact ⟨va_K.moved hW.alike k1, by rw [hU]; exact va_X.moved hW.alike hX, fun w hw => va_Nw.warmM hW (k3 w hw), va_AO.moved hW.alike k4, va_AO.moved hW.alike k5⟩
theorem mm_good {ws : List Cond} (hG : GoodIn WS WS) (h : ∀ w ∈ ws, w ∈ WS) : GoodIn WS ws := fun w hw => hG w (h w hw)
theorem mm_ws_in {M' : mm_M} (hcd : Cond.code M'.1 M'.2.1 M'.2.2.1 M'.2.2.2.1 ∈ WS) : ∀ w ∈ mm_ws WS M', w ∈ WS := by
  intro w hw
  rcases List.mem_cons.mp hw with h | h
  · rw [h]; exact hcd
  · exact h
theorem mm_s_callV {idx b ci q : Nat} {fs : List (Option (Option Nat))} {r : vw_C} {M' : mm_M} {d' : Nat} (hdd : d = d' + 1) (hd : decode M.2.1 pc = .ok (.invokevirtual idx, 3)) (hG : GoodIn WS WS) (hw1 : Cond.methodLink M.1.cls idx M'.1 ∈ WS) (hw2 : Cond.instanceMethod M'.1 ∈ WS) (hw3 : Cond.selects r.1 M'.1 M'.1 ∈ WS) (hw4 : Cond.initialized r.1 ∈ WS) (hw5 : Cond.code M'.1 M'.2.1 M'.2.2.1 M'.2.2.2.1 ∈ WS)
    (hne : M'.1.cls = r.1 ∧ M'.1.cls ≠ "java/lang/invoke/MethodHandle" ∧ M'.1.cls ≠ "java/lang/invoke/VarHandle" ∧ (parseMethodDescriptor M'.1.desc).map (fun d => d.parameters.length) = some b) (hmx : M'.2.2.1 ≤ 13) (hr : cl[ci]? = some r) (hq : sh[q]? = some (0, ci, fs)) (hst : st.drop b = .inr (some q) :: t) (hfew : mm_few t = true) (hce : ce + M'.2.2.2.2.2.1 ≤ M.2.2.2.2.2.1) (hsl : sl + M'.2.2.2.2.2.2 ≤ M.2.2.2.2.2.2)
    (hMet : mm_ivs (.inr (some q) :: (st.take b).reverse) → (∀ a b, mm_ir (N a b)) → sh.length ≤ 900 → mm_Met l WS cl NW D cT h0 b0 L xs d' M' (fun r sh' N' => mm_G l WS cl NW D cT h0 b0 L xs d M Q (pc + 3, lv, r.toList ++ t, sh', N', ce + M'.2.2.2.2.2.1, sl + M'.2.2.2.2.2.2)) (.inr (some q) :: (st.take b).reverse) sh N) : mm_G l WS cl NW D cT h0 b0 L xs d M Q (pc, lv, st, sh, N, ce, sl) := by
  intro p e R s m args below meth c QQ hC H locs ls hH
  obtain ⟨hP, hz, hS, hl, ho1, ho2, ho3, ho4, ho5, ho6⟩ := hH
  have hz : s.heap.size + ce = h0 + sh.length := hz
  have ho1 : sh.length ≤ 900 := ho1
  have ho5 : ce ≤ M.2.2.2.2.2.1 := ho5
  have ho6 : sl ≤ M.2.2.2.2.2.2 := ho6
  refine mm_size fun hle => ?_
  have hh := hC.2.2.2.2.2.2.2.1
  have hR := hC.2.2.2.2.2.2.2.2.1
  have hK := hC.2.2.2.2.2.2.1
  have hts := hC.2.2.2.2.1
  have hHs : H.size = h0 + sh.length := mm_exact hP hz hS hh.2 hle
  have hstk : st = st.take b ++ .inr (some q) :: t := by rw [← hst, List.take_append_drop]
  have hbl : (st.take b).length = b := by
    have h1 : b < st.length := by
      rcases Nat.lt_or_ge b st.length with h | h
      · exact h
      · rw [List.drop_eq_nil_of_le h] at hst; cases hst
    rw [List.length_take]; omega
  have hiv : mm_ivs (.inr (some q) :: (st.take b).reverse) := ⟨trivial, mm_ivs_of (fun v hv => mm_ivs_mem ho3 v (List.mem_of_mem_take (List.mem_reverse.mp hv)))⟩
  have hit : mm_ivs t := mm_ivs_of (fun v hv => mm_ivs_mem ho3 v (by rw [hstk]; exact List.mem_append_right _ (List.mem_cons_of_mem _ hv)))
  have hM' := hMet hiv ho2 ho1
  have h8 := mm_few_le hfew
  have hgo : GoodIn WS (wsV M.1.cls idx r.1 M'.1 (mm_ws WS M')) := mm_good hG (fun w hw => by
    unfold wsV at hw
    rcases List.mem_append.mp hw with h | h
    · simp only [List.mem_cons, List.not_mem_nil, or_false] at h
      rcases h with h | h | h | h <;> rw [h] <;> assumption
    · exact mm_ws_in hw5 w h)
  have hrun := va_runV (p := p) (e := e) (m := m) (below := below) (meth := meth) (c := c) (locs := locs) (cells := ce) (slots := sl) (b := h0 + q) (As := ((st.take b).reverse).map (mm_v h0 b0)) (rest := t.map (mm_v h0 b0)) (g := F0 m pc ls (st.map (mm_v h0 b0))) (nL := M.2.2.1) (cc := M.2.1) (H := H) (R := R)
    ⟨hC.1, hC.2.1, hC.2.2.1, hC.2.2.2.1, hts⟩ hM' (cwV b hts hgo rfl rfl rfl hne ⟨by show d' + 1 + 1 ≤ R.frames; omega, by show 8 + (M'.2.2.1 + 11) + 32 * (d' + 1) ≤ R.locals; omega⟩)
    ⟨mm_blind, va_recv hK.1 hP hr (mm_w_get hq), fun U hU hW => ⟨by rw [List.map_cons]; show _ = (Value.ref (mm_ad h0 b0 q) :: _).toArray; rw [mm_sh_lt (h0 := h0) (b0 := b0) ho1 hq], by rw [hU]; exact hP, by rw [hU]; exact hHs, mm_K_warm hK hS hh hU hW⟩⟩
    rfl (by rw [List.length_map, List.length_reverse]; exact hbl) hl.1 (by show st.map (mm_v h0 b0) = _; rw [← List.map_reverse, List.reverse_reverse]; conv => lhs; rw [hstk]
                                                                           rw [List.map_append, List.map_cons]; show _ ++ Value.ref (mm_ad h0 b0 q) :: _ = _; rw [mm_sh_lt (h0 := h0) (b0 := b0) ho1 hq]) (by rw [mm_sum]; show 2 * 0 + t.length ≤ 8; omega) hd ⟨by omega, by omega⟩
  refine mm_cont hrun hS fun r1 sh1 N1 H1 locs1 g1 g2 g3 g4 g5 g6 g7 => ?_
  have h := g1 p e R s m args below meth c QQ hC H1 locs1 ls ⟨g2, by show s.heap.size + (ce + M'.2.2.2.2.2.1) = h0 + sh1.length; rw [g3]; have : s.heap.size + ce = h0 + sh.length := hz; omega, g7, hl, g4, g5, mm_ivs_app g6 hit, ho4, hce, hsl⟩
  have h : W p l e R s m args below meth c H1 locs1 (ce + M'.2.2.2.2.2.1) (sl + M'.2.2.2.2.2.2) QQ (F0 m (pc + 3) ls ((r1.toList ++ t).map (mm_v h0 b0))) := h
  rw [List.map_append] at h
  exact h
theorem mm_s_callS {idx b : Nat} {M' : mm_M} {d' : Nat} (hdd : d = d' + 1) (hd : decode M.2.1 pc = .ok (.invokestatic idx, 3)) (hG : GoodIn WS WS) (hw1 : Cond.methodLink M.1.cls idx M'.1 ∈ WS) (hw2 : Cond.static M'.1 ∈ WS) (hw4 : Cond.initialized M.1.cls ∈ WS) (hw5 : Cond.code M'.1 M'.2.1 M'.2.2.1 M'.2.2.2.1 ∈ WS)
    (hne : M'.1.cls = M.1.cls ∧ M'.1.cls ≠ "java/lang/invoke/MethodHandle" ∧ M'.1.cls ≠ "java/lang/invoke/VarHandle" ∧ (parseMethodDescriptor M'.1.desc).map (fun d => d.parameters.length) = some b) (hmx : M'.2.2.1 ≤ 13) (hst : b ≤ st.length) (hfew : mm_few (st.drop b) = true) (hce : ce + M'.2.2.2.2.2.1 ≤ M.2.2.2.2.2.1) (hsl : sl + M'.2.2.2.2.2.2 ≤ M.2.2.2.2.2.2)
    (hMet : mm_ivs ((st.take b).reverse) → (∀ a b, mm_ir (N a b)) → sh.length ≤ 900 → mm_Met l WS cl NW D cT h0 b0 L xs d' M' (fun r sh' N' => mm_G l WS cl NW D cT h0 b0 L xs d M Q (pc + 3, lv, r.toList ++ st.drop b, sh', N', ce + M'.2.2.2.2.2.1, sl + M'.2.2.2.2.2.2)) ((st.take b).reverse) sh N) : mm_G l WS cl NW D cT h0 b0 L xs d M Q (pc, lv, st, sh, N, ce, sl) := by
  intro p e R s m args below meth c QQ hC H locs ls hH
  obtain ⟨hP, hz, hS, hl, ho1, ho2, ho3, ho4, ho5, ho6⟩ := hH
  have hz : s.heap.size + ce = h0 + sh.length := hz
  have ho1 : sh.length ≤ 900 := ho1
  have ho5 : ce ≤ M.2.2.2.2.2.1 := ho5
  have ho6 : sl ≤ M.2.2.2.2.2.2 := ho6
  refine mm_size fun hle => ?_
  have hh := hC.2.2.2.2.2.2.2.1
  have hR := hC.2.2.2.2.2.2.2.2.1
  have hK := hC.2.2.2.2.2.2.1
  have hts := hC.2.2.2.2.1
  have hHs : H.size = h0 + sh.length := mm_exact hP hz hS hh.2 hle
  have hbl : (st.take b).length = b := by rw [List.length_take]; omega
  have hiv : mm_ivs ((st.take b).reverse) := mm_ivs_of (fun v hv => mm_ivs_mem ho3 v (List.mem_of_mem_take (List.mem_reverse.mp hv)))
  have hit : mm_ivs (st.drop b) := mm_ivs_of (fun v hv => mm_ivs_mem ho3 v (List.mem_of_mem_drop hv))
  have hM' := hMet hiv ho2 ho1
  have h8 := mm_few_le hfew
  have hgo : GoodIn WS (wsS M.1.cls idx M'.1 (mm_ws WS M')) := mm_good hG (fun w hw => by
    unfold wsS at hw
    rcases List.mem_append.mp hw with h | h
    · simp only [List.mem_cons, List.not_mem_nil, or_false] at h
      rcases h with h | h | h <;> rw [h] <;> assumption
    · exact mm_ws_in hw5 w h)
  have hrun := va_runS (p := p) (e := e) (m := m) (below := below) (meth := meth) (c := c) (locs := locs) (cells := ce) (slots := sl) (As := ((st.take b).reverse).map (mm_v h0 b0)) (rest := (st.drop b).map (mm_v h0 b0)) (g := F0 m pc ls (st.map (mm_v h0 b0))) (nL := M.2.2.1) (cc := M.2.1) (H := H) (R := R)
    ⟨hC.1, hC.2.1, hC.2.2.1, hC.2.2.2.1, hts⟩ hM' (cwS b hts hgo rfl rfl rfl hne ⟨by show d' + 1 + 1 ≤ R.frames; omega, by show 8 + (M'.2.2.1 + 11) + 32 * (d' + 1) ≤ R.locals; omega⟩)
    ⟨mm_blind, fun U hU hW => ⟨rfl, by rw [hU]; exact hP, by rw [hU]; exact hHs, mm_K_warm hK hS hh hU hW⟩⟩
    rfl (by rw [List.length_map, List.length_reverse]; exact hbl) hl.1 (by show st.map (mm_v h0 b0) = _; rw [← List.map_reverse, List.reverse_reverse, ← List.map_append, List.take_append_drop]) (by rw [mm_sum]; show 2 * 0 + (st.drop b).length ≤ 8; omega) hd ⟨by omega, by omega⟩
  refine mm_cont hrun hS fun r1 sh1 N1 H1 locs1 g1 g2 g3 g4 g5 g6 g7 => ?_
  have h := g1 p e R s m args below meth c QQ hC H1 locs1 ls ⟨g2, by show s.heap.size + (ce + M'.2.2.2.2.2.1) = h0 + sh1.length; rw [g3]; have : s.heap.size + ce = h0 + sh.length := hz; omega, g7, hl, g4, g5, mm_ivs_app g6 hit, ho4, hce, hsl⟩
  have h : W p l e R s m args below meth c H1 locs1 (ce + M'.2.2.2.2.2.1) (sl + M'.2.2.2.2.2.2) QQ (F0 m (pc + 3) ls ((r1.toList ++ st.drop b).map (mm_v h0 b0))) := h
  rw [List.map_append] at h
  exact h
set_option maxHeartbeats 4000000 in
theorem mm_s_callI {idx q : Nat} {M' : mm_M} {d' : Nat} (hdd : d = d' + 1) (hd : decode M.2.1 pc = .ok (.invokespecial idx, 3)) (hG : GoodIn WS WS) (hlk : Cond.methodLink M.1.cls idx M'.1 ∈ WS ∨ ∃ host, (M.1.cls, idx, M'.1, host) ∈ NW) (hw2 : Cond.instanceMethod M'.1 ∈ WS) (hw4 : Cond.initialized M'.1.cls ∈ WS) (hw5 : Cond.code M'.1 M'.2.1 M'.2.2.1 M'.2.2.2.1 ∈ WS) (hnone : M'.2.2.2.1 = none) (hini : M'.1.name = "<init>")
    (hne : M'.1.cls ≠ "java/lang/invoke/MethodHandle" ∧ M'.1.cls ≠ "java/lang/invoke/VarHandle" ∧ (parseMethodDescriptor M'.1.desc).map (fun d => d.parameters.length) = some 0) (hmx : M'.2.2.1 ≤ 13) (hfew : mm_few t = true) (hce : ce + M'.2.2.2.2.2.1 ≤ M.2.2.2.2.2.1) (hsl : sl + M'.2.2.2.2.2.2 ≤ M.2.2.2.2.2.2)
    (hMet : (∀ a b, mm_ir (N a b)) → sh.length ≤ 900 → mm_Met l WS cl NW D cT h0 b0 L xs d' M' (fun r sh' N' => mm_G l WS cl NW D cT h0 b0 L xs d M Q (pc + 3, lv, r.toList ++ t, sh', N', ce + M'.2.2.2.2.2.1, sl + M'.2.2.2.2.2.2)) [.inr (some q)] sh N) : mm_G l WS cl NW D cT h0 b0 L xs d M Q (pc, lv, .inr (some q) :: t, sh, N, ce, sl) := by
  intro p e R s m args below meth c QQ hC H locs ls hH
  obtain ⟨hP, hz, hS, hl, ho1, ho2, ho3, ho4, ho5, ho6⟩ := hH
  have hz : s.heap.size + ce = h0 + sh.length := hz
  have ho1 : sh.length ≤ 900 := ho1
  have ho5 : ce ≤ M.2.2.2.2.2.1 := ho5
  have ho6 : sl ≤ M.2.2.2.2.2.2 := ho6
  refine mm_size fun hle => ?_
  have hh := hC.2.2.2.2.2.2.2.1
  have hR := hC.2.2.2.2.2.2.2.2.1
  have hK := hC.2.2.2.2.2.2.1
  have hts := hC.2.2.2.2.1
  have hHs : H.size = h0 + sh.length := mm_exact hP hz hS hh.2 hle
  have hM' := hMet ho2 ho1
  have h8 := mm_few_le hfew
  have hgo : GoodIn WS (mm_ws WS M') := mm_good hG (mm_ws_in hw5)
  have hcode : mm_ws WS M' = Cond.code M'.1 M'.2.1 M'.2.2.1 none :: WS := by unfold mm_ws; rw [hnone]
  have hRR : (mm_rm d' M').frames + 1 ≤ R.frames ∧ 8 + (M'.2.2.1 + 11) + (mm_rm d' M').locals ≤ R.locals := ⟨by show d' + 1 + 1 ≤ R.frames; omega, by show 8 + (M'.2.2.1 + 11) + 32 * (d' + 1) ≤ R.locals; omega⟩
  have hpre : PreS s H (mm_Pc cl NW D cT h0 b0 L xs [.inr (some q)] sh N) (.ref (mm_ad h0 b0 q) :: []) := ⟨mm_blind, fun U hU hW => ⟨rfl, by rw [hU]; exact hP, by rw [hU]; exact hHs, mm_K_warm hK hS hh hU hW⟩⟩
  have hrun : va_Run p l e R s m args below meth c H locs ce sl M'.2.2.2.2.2.1 M'.2.2.2.2.2.2 (F0 m pc ls (.ref (mm_ad h0 b0 q) :: t.map (mm_v h0 b0))) (t.map (mm_v h0 b0)) (mm_Qc cl D cT h0 b0 (fun r sh' N' => mm_G l WS cl NW D cT h0 b0 L xs d M Q (pc + 3, lv, r.toList ++ t, sh', N', ce + M'.2.2.2.2.2.1, sl + M'.2.2.2.2.2.2)) (sh.length + M'.2.2.2.2.2.1) (Value.ref (mm_ad h0 b0 q) :: []).toArray) (mm_A h0) := by
    rcases hlk with hlk | ⟨host, hlk⟩
    · exact va_runI (nL := M.2.2.1) (cc := M.2.1) (index := idx) (own := M.1.cls) (As := []) ⟨hC.1, hC.2.1, hC.2.2.1, hC.2.2.2.1, hts⟩ hM' (cwI 0 hts hgo hcode rfl rfl (hts _ hw4) (hts _ hlk) (hts _ hw2) hini hne hRR) hpre rfl rfl hl.1 rfl (by rw [mm_sum]; show 2 * 0 + t.length ≤ 8; omega) hd ⟨by omega, by omega⟩
    · exact va_runIN (nL := M.2.2.1) (cc := M.2.1) (index := idx) (own := M.1.cls) (As := []) ⟨hC.1, hC.2.1, hC.2.2.1, hC.2.2.2.1, hts⟩ hM' ⟨va_cnB 0 hts hgo hcode rfl rfl (hK.2.2.1 _ hlk) (hts _ hw4) hne hRR, hini, hts _ hw2⟩ hpre rfl rfl hl.1 rfl (by rw [mm_sum]; show 2 * 0 + t.length ≤ 8; omega) hd ⟨by omega, by omega⟩
  refine mm_cont hrun hS fun r1 sh1 N1 H1 locs1 g1 g2 g3 g4 g5 g6 g7 => ?_
  have h := g1 p e R s m args below meth c QQ hC H1 locs1 ls ⟨g2, by show s.heap.size + (ce + M'.2.2.2.2.2.1) = h0 + sh1.length; rw [g3]; have : s.heap.size + ce = h0 + sh.length := hz; omega, g7, hl, g4, g5, mm_ivs_app g6 ho3.2, ho4, hce, hsl⟩
  have h : W p l e R s m args below meth c H1 locs1 (ce + M'.2.2.2.2.2.1) (sl + M'.2.2.2.2.2.2) QQ (F0 m (pc + 3) ls ((r1.toList ++ t).map (mm_v h0 b0))) := h
  rw [List.map_append] at h
  exact h
theorem mm_s_ireturn {z : Int} (hd : decode M.2.1 pc = .ok (.ireturn, 1)) (hce : ce = M.2.2.2.2.2.1) (hr : M.2.2.2.1 = some .int ∨ (M.2.2.2.1 = some .boolean ∧ (z = 0 ∨ z = 1))) (hq : Q (some (.inl z)) sh N) : mm_G l WS cl NW D cT h0 b0 L xs d M Q (pc, lv, [.inl z], sh, N, ce, sl) := by
  intro p e R s m args below meth c QQ hC H locs ls hH
  exact hC.2.2.2.2.2.2.2.2.2 pc lv ce sl (some (.inl z)) sh N H locs ls hq hce (Or.inl ⟨z, rfl, hr, hd⟩) hH
theorem mm_s_return (hd : decode M.2.1 pc = .ok (.return_, 1)) (hce : ce = M.2.2.2.2.2.1) (hr : M.2.2.2.1 = none) (hq : Q none sh N) : mm_G l WS cl NW D cT h0 b0 L xs d M Q (pc, lv, [], sh, N, ce, sl) := by
  intro p e R s m args below meth c QQ hC H locs ls hH
  exact hC.2.2.2.2.2.2.2.2.2 pc lv ce sl none sh N H locs ls hq hce (Or.inr ⟨rfl, hr, hd⟩) hH
end MMO
