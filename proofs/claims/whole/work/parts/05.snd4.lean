/-! steps that make cells; the library's methods; the switch -/
section MMK
variable {l : Launch} {WS : List Cond} {cl : List vw_C} {NW : mm_NW} {D : va_G} {cT : Nat → ClassId} {h0 b0 L : Nat} {xs : Nat → Int}
variable {d : Nat} {M : mm_M} {Q : mm_Q} {pc ce sl : Nat} {lv : List (Nat × mm_V)} {st t : List mm_V} {sh : List mm_S} {N : mm_N}
theorem mm_push {H H' : Heap} {x : mm_S} (hP : va_P D cl (mm_w h0 b0 cT sh N) H) (hH : H.size = h0 + sh.length) (o1 : ∀ q, q < h0 + sh.length → H'[q]? = H[q]?) (he : va_at D cl (h0 + sh.length, mm_e h0 b0 cT (fun _ => 0) x) H') : va_P D cl (mm_w h0 b0 cT (sh ++ [x]) (mm_f0 N sh.length (fun _ => 0))) H' := by
  rw [mm_w_push]
  refine (hP.kept (fun k q hk => o1 q.1 (by rw [← hH]; exact (hP k q hk).lt))).app (fun k q hk => ?_)
  have hz : k < 1 := (List.getElem?_eq_some_iff.mp hk).1
  rw [show k = 0 by omega] at hk
  cases hk
  exact he
theorem mm_S_push {H H' : Heap} {s : State} {locs : List Loc} (hS : va_S (mm_A h0) s.heap H locs) (hH : H.size = h0 + sh.length) (z1 : H'.size = h0 + sh.length + 1) (o1 : ∀ q, q < h0 + sh.length → H'[q]? = H[q]?) : va_S (mm_A h0) s.heap H' locs :=
  ⟨by have := hS.1; omega, fun q h1 h2 => (o1 q (by have := hS.1; omega)).trans (hS.2.1 q h1 h2), hS.2.2⟩
theorem mm_s_newI {n : Int} (hd : decode M.2.1 pc = .ok (.newarray .int, 2)) (harr : Cond.arrayClass .int ∈ WS) (hn : 0 ≤ n ∧ n ≤ 100000) (h1 : ce + 1 ≤ M.2.2.2.2.2.1) (h2 : sl + n.toNat ≤ M.2.2.2.2.2.2) (h3 : sh.length < 900) (k : mm_G l WS cl NW D cT h0 b0 L xs d M Q (pc + 2, lv, .inr (some sh.length) :: t, sh ++ [(1, n.toNat, [])], mm_f0 N sh.length (fun _ => 0), ce + 1, sl + n.toNat)) : mm_G l WS cl NW D cT h0 b0 L xs d M Q (pc, lv, .inl n :: t, sh, N, ce, sl) := by
  intro p e R s m args below meth c QQ hC H locs ls hH
  obtain ⟨hP, hz, hS, hl, ho1, ho2, ho3, ho4, ho5, ho6⟩ := hH
  have hz : s.heap.size + ce = h0 + sh.length := hz
  have ho1 : sh.length ≤ 900 := ho1
  have ho5 : ce ≤ M.2.2.2.2.2.1 := ho5
  have ho6 : sl ≤ M.2.2.2.2.2.2 := ho6
  refine mm_size fun hle => ?_
  have hh := hC.2.2.2.2.2.2.2.1
  have hR := hC.2.2.2.2.2.2.2.2.1
  have hH : H.size = h0 + sh.length := mm_exact hP hz hS hh.2 hle
  show W p l e R s m args below meth c H locs ce sl QQ (F0 m pc ls (.int (Int32.ofInt n) :: t.map (mm_v h0 b0)))
  refine va_newaK (atype := .int) hC.1 hC.2.1 (hC.2.2.2.2.1 _ harr) rfl hd rfl ((mm_nonneg ho3.1).mpr hn.1) (mm_nat ho3.1) (by show n.toNat * 4 ≤ 536870912; omega) (by omega) (by omega) hH fun H' cA e1 z1 o1 hA hnm => ?_
  have hcA : cA = cT 0 := by
    have hra : s.vm.findClass ("[" ++ (FieldType.int).toString) = some (cT 0) := (hC.2.2.2.2.2.2.1.1.2 0 _ rfl).2
    exact Option.some.inj (hnm.symm.trans hra)
  subst hcA
  have h := k p e R s m args below meth c QQ hC H' locs ls ⟨mm_push hP hH o1 (by show H'[h0 + sh.length]? = some (vp_cell (cT 0) (n.toNat, .inl (fun _ => Int32.ofInt 0))); rw [e1]; rfl), by rw [List.length_append]; show s.heap.size + (ce + 1) = h0 + (sh.length + 1); omega, mm_S_push hS hH z1 o1, hl, by rw [List.length_append]; show sh.length + 1 ≤ 900; omega, mm_ir_f0 ho2 (fun _ => mm_ir0), ⟨trivial, ho3.2⟩, ho4, h1, h2⟩
  have h : W p l e R s m args below meth c H' locs (ce + 1) (sl + n.toNat) QQ (F0 m (pc + 2) ls (.ref (mm_ad h0 b0 sh.length) :: t.map (mm_v h0 b0))) := h
  rw [mm_ad_lt (by omega)] at h
  exact h
theorem mm_s_newZ {n : Int} (hd : decode M.2.1 pc = .ok (.newarray .boolean, 2)) (harr : Cond.arrayClass .boolean ∈ WS) (hn : 0 ≤ n ∧ n ≤ 100000) (h1 : ce + 1 ≤ M.2.2.2.2.2.1) (h2 : sl + n.toNat ≤ M.2.2.2.2.2.2) (h3 : sh.length < 900) (k : mm_G l WS cl NW D cT h0 b0 L xs d M Q (pc + 2, lv, .inr (some sh.length) :: t, sh ++ [(2, n.toNat, [])], mm_f0 N sh.length (fun _ => 0), ce + 1, sl + n.toNat)) : mm_G l WS cl NW D cT h0 b0 L xs d M Q (pc, lv, .inl n :: t, sh, N, ce, sl) := by
  intro p e R s m args below meth c QQ hC H locs ls hH
  obtain ⟨hP, hz, hS, hl, ho1, ho2, ho3, ho4, ho5, ho6⟩ := hH
  have hz : s.heap.size + ce = h0 + sh.length := hz
  have ho1 : sh.length ≤ 900 := ho1
  have ho5 : ce ≤ M.2.2.2.2.2.1 := ho5
  have ho6 : sl ≤ M.2.2.2.2.2.2 := ho6
  refine mm_size fun hle => ?_
  have hh := hC.2.2.2.2.2.2.2.1
  have hR := hC.2.2.2.2.2.2.2.2.1
  have hH : H.size = h0 + sh.length := mm_exact hP hz hS hh.2 hle
  show W p l e R s m args below meth c H locs ce sl QQ (F0 m pc ls (.int (Int32.ofInt n) :: t.map (mm_v h0 b0)))
  refine va_newaK (atype := .boolean) hC.1 hC.2.1 (hC.2.2.2.2.1 _ harr) rfl hd rfl ((mm_nonneg ho3.1).mpr hn.1) (mm_nat ho3.1) (by show n.toNat * 1 ≤ 536870912; omega) (by omega) (by omega) hH fun H' cA e1 z1 o1 hA hnm => ?_
  have hcA : cA = cT 1 := by
    have hra : s.vm.findClass ("[" ++ (FieldType.boolean).toString) = some (cT 1) := (hC.2.2.2.2.2.2.1.1.2 1 _ rfl).2
    exact Option.some.inj (hnm.symm.trans hra)
  subst hcA
  have h := k p e R s m args below meth c QQ hC H' locs ls ⟨mm_push hP hH o1 (by show H'[h0 + sh.length]? = some (vp_cell (cT 1) (n.toNat, .inl (fun _ => Int32.ofInt 0))); rw [e1]; rfl), by rw [List.length_append]; show s.heap.size + (ce + 1) = h0 + (sh.length + 1); omega, mm_S_push hS hH z1 o1, hl, by rw [List.length_append]; show sh.length + 1 ≤ 900; omega, mm_ir_f0 ho2 (fun _ => mm_ir0), ⟨trivial, ho3.2⟩, ho4, h1, h2⟩
  have h : W p l e R s m args below meth c H' locs (ce + 1) (sl + n.toNat) QQ (F0 m (pc + 2) ls (.ref (mm_ad h0 b0 sh.length) :: t.map (mm_v h0 b0))) := h
  rw [mm_ad_lt (by omega)] at h
  exact h
theorem mm_s_newR {idx kk : Nat} {n : Int} (hkk : kk < 2) (hd : decode M.2.1 pc = .ok (.anewarray idx, 3)) (hlk : Cond.classLink M.1.cls idx (mm_cn cl (bif Nat.beq kk 0 then 2 else 5)) ∈ WS) (hn : 0 ≤ n ∧ n ≤ 100000) (h1 : ce + 1 ≤ M.2.2.2.2.2.1) (h2 : sl + n.toNat ≤ M.2.2.2.2.2.2) (h3 : sh.length < 900) (k : mm_G l WS cl NW D cT h0 b0 L xs d M Q (pc + 3, lv, .inr (some sh.length) :: t, sh ++ [(kk + 3, n.toNat, List.replicate n.toNat (some none))], mm_f0 N sh.length (fun _ => 0), ce + 1, sl + n.toNat)) : mm_G l WS cl NW D cT h0 b0 L xs d M Q (pc, lv, .inl n :: t, sh, N, ce, sl) := by
  intro p e R s m args below meth c QQ hC H locs ls hH
  obtain ⟨hP, hz, hS, hl, ho1, ho2, ho3, ho4, ho5, ho6⟩ := hH
  have hz : s.heap.size + ce = h0 + sh.length := hz
  have ho1 : sh.length ≤ 900 := ho1
  have ho5 : ce ≤ M.2.2.2.2.2.1 := ho5
  have ho6 : sl ≤ M.2.2.2.2.2.2 := ho6
  refine mm_size fun hle => ?_
  have hh := hC.2.2.2.2.2.2.2.1
  have hR := hC.2.2.2.2.2.2.2.2.1
  have hK := hC.2.2.2.2.2.2.1
  have hH : H.size = h0 + sh.length := mm_exact hP hz hS hh.2 hle
  have hov : va_AO (mm_cn cl (bif Nat.beq kk 0 then 2 else 5)) s := by
    match kk, hkk with
    | 0, _ => exact hK.2.2.2.1
    | 1, _ => exact hK.2.2.2.2
  show W p l e R s m args below meth c H locs ce sl QQ (F0 m pc ls (.int (Int32.ofInt n) :: t.map (mm_v h0 b0)))
  have hnn : (Int32.ofInt n).toNatClampNeg = n.toNat := mm_nat ho3.1
  refine W.anew hC.1 hC.2.1 hC.2.2.2.1 (hC.2.2.2.2.1 _ hlk) (va_AO.use hov) rfl hd rfl ((mm_nonneg ho3.1).mpr hn.1) (by rw [hnn]; omega) (by omega) (by rw [hnn]; omega) fun cA kA comp f1 f2 f3 f4 => ?_
  have hcA : cA = cT (kk + 2) := by
    obtain ⟨kA2, comp2, k1, k2, k3, k4⟩ := (hK.1.2 (kk + 2) _ (mm_ty_q hkk)).2
    exact Option.some.inj (f1.symm.trans k4)
  subst hcA
  generalize hH1 : H.push ({ cls := cT (kk + 2), slots := Array.replicate (Int32.ofInt n).toNatClampNeg .null, vm := .none } : Cell) = H1
  have z1 : H1.size = h0 + sh.length + 1 := by rw [← hH1, Array.size_push, hH]
  have e1 : H1[h0 + sh.length]? = some (arrV (cT (kk + 2)) n.toNat (fun _ => .null)) := by rw [← hH1, ← hH, Array.getElem?_push_size, ← arrV_new, hnn]
  have o1 : ∀ q : Nat, q < h0 + sh.length → H1[q]? = H[q]? := fun q hq => by rw [← hH1, Array.getElem?_push, if_neg (by omega)]
  have hrv : mm_rv h0 b0 (List.replicate n.toNat (some none)) = fun _ => none := by
    funext j
    unfold mm_rv
    by_cases hj : j < n.toNat
    · rw [List.getElem?_replicate, if_pos hj]
    · rw [List.getElem?_replicate, if_neg hj]
  have h := k p e R s m args below meth c QQ hC H1 locs ls ⟨mm_push hP hH o1 (by show H1[h0 + sh.length]? = some (vp_cell (cT (kk + 2)) (n.toNat, .inr (.inr (.inr (.inr (mm_rv h0 b0 (List.replicate n.toNat (some none)))))))); rw [e1, hrv]; rfl), by rw [List.length_append]; show s.heap.size + (ce + 1) = h0 + (sh.length + 1); omega, mm_S_push hS hH z1 o1, hl, by rw [List.length_append]; show sh.length + 1 ≤ 900; omega, mm_ir_f0 ho2 (fun _ => mm_ir0), ⟨trivial, ho3.2⟩, ho4, h1, h2⟩
  have h : W p l e R s m args below meth c H1 locs (ce + 1) (sl + n.toNat) QQ (F0 m (pc + 3) ls (.ref (mm_ad h0 b0 sh.length) :: t.map (mm_v h0 b0))) := h
  rw [mm_ad_lt (by omega)] at h
  rw [hnn, hH]
  exact h
theorem mm_s_new {idx a : Nat} {r : vw_C} {fp : List (Option (Option Nat))} {ft : Nat → FieldType} (hd : decode M.2.1 pc = .ok (.new idx, 3)) (hr : cl[a]? = some r) (hw : ∀ w ∈ u_ws r.1 r.2.1 r.2.2, w ∈ WS) (hty : ∀ k, k < r.2.2 → parseFieldDescriptor (r.2.1 k).2.2.1 = some (ft k)) (hlk : Cond.classLink M.1.cls idx r.1 ∈ WS) (hin : Cond.instantiable r.1 r.2.2 ∈ WS) (hit : Cond.initialized r.1 ∈ WS)
    (hfp : fp.length = r.2.2) (hpf : ∀ j, j < r.2.2 → (fp[j]? = some none ∧ (ft j = .int ∨ ft j = .boolean)) ∨ (fp[j]? = some (some none) ∧ ((∃ C, ft j = .object C) ∨ ∃ C, ft j = .array C))) (h1 : ce + 1 ≤ M.2.2.2.2.2.1) (h2 : sl + fp.length ≤ M.2.2.2.2.2.2) (h3 : sh.length < 900) (k : mm_G l WS cl NW D cT h0 b0 L xs d M Q (pc + 3, lv, .inr (some sh.length) :: st, sh ++ [(0, a, fp)], mm_f0 N sh.length (fun _ => 0), ce + 1, sl + fp.length)) : mm_G l WS cl NW D cT h0 b0 L xs d M Q (pc, lv, st, sh, N, ce, sl) := by
  intro p e R s m args below meth c QQ hC H locs ls hH
  obtain ⟨hP, hz, hS, hl, ho1, ho2, ho3, ho4, ho5, ho6⟩ := hH
  have hz : s.heap.size + ce = h0 + sh.length := hz
  have ho1 : sh.length ≤ 900 := ho1
  have ho5 : ce ≤ M.2.2.2.2.2.1 := ho5
  have ho6 : sl ≤ M.2.2.2.2.2.2 := ho6
  refine mm_size fun hle => ?_
  have hh := hC.2.2.2.2.2.2.2.1
  have hR := hC.2.2.2.2.2.2.2.2.1
  have hK := hC.2.2.2.2.2.2.1
  have hH : H.size = h0 + sh.length := mm_exact hP hz hS hh.2 hle
  have hts := hC.2.2.2.2.1
  obtain ⟨C, T, n⟩ := r
  have hKn := hK.1.1 a _ hr
  show W p l e R s m args below meth c H locs ce sl QQ (F0 m pc ls (st.map (mm_v h0 b0)))
  refine W.newcK hC.1 hC.2.1 hC.2.2.2.1 (hts _ hlk) (hts _ hin) (hts _ hit) rfl hd (by omega) (by rw [← hfp]; omega) hKn.2.1 hH fun H1 kC hkC e1 z1 o1 => ?_
  have hfs : ∀ j, j < n → defaultValue (ft j) = vp_V (fp.mapIdx (mm_fv h0 b0 (fun _ => 0))) j := by
    intro j hj
    unfold vp_V
    rw [List.getD_eq_getElem?_getD, List.getElem?_mapIdx]
    rcases hpf j hj with ⟨g1, g2⟩ | ⟨g1, g2⟩
    · rw [g1]
      rcases g2 with g2 | g2 <;> rw [g2] <;> rfl
    · rw [g1]
      rcases g2 with ⟨C2, g2⟩ | ⟨C2, g2⟩ <;> rw [g2] <;> rfl
  have h := k p e R s m args below meth c QQ hC H1 locs ls ⟨mm_push hP hH o1 ⟨_, hr, (u_born ft hts hw hKn hkC e1 hty).to hfs⟩, by rw [List.length_append]; show s.heap.size + (ce + 1) = h0 + (sh.length + 1); omega, mm_S_push hS hH z1 o1, hl, by rw [List.length_append]; show sh.length + 1 ≤ 900; omega, mm_ir_f0 ho2 (fun _ => mm_ir0), ⟨trivial, ho3⟩, ho4, h1, h2⟩
  have h : W p l e R s m args below meth c H1 locs (ce + 1) (sl + fp.length) QQ (F0 m (pc + 3) ls (.ref (mm_ad h0 b0 sh.length) :: st.map (mm_v h0 b0))) := h
  rw [mm_ad_lt (by omega), hfp] at h
  exact h
theorem mm_s_objInit {idx q : Nat} (hd : decode M.2.1 pc = .ok (.invokespecial idx, 3)) (hlk : Cond.methodLink M.1.cls idx Lib.objectInit ∈ WS) (hin : Cond.instanceMethod Lib.objectInit ∈ WS) (hcd : Cond.code Lib.objectInit ⟨#[0xb1]⟩ 1 none ∈ WS) (hfew : mm_few t = true) (k : mm_G l WS cl NW D cT h0 b0 L xs d M Q (pc + 3, lv, t, sh, N, ce, sl)) : mm_G l WS cl NW D cT h0 b0 L xs d M Q (pc, lv, .inr (some q) :: t, sh, N, ce, sl) := by
  intro p e R s m args below meth c QQ hC H locs ls hH
  obtain ⟨hP, hz, hS, hl, ho1, ho2, ho3, ho4, ho5, ho6⟩ := hH
  have hz : s.heap.size + ce = h0 + sh.length := hz
  have ho1 : sh.length ≤ 900 := ho1
  have ho5 : ce ≤ M.2.2.2.2.2.1 := ho5
  have ho6 : sl ≤ M.2.2.2.2.2.2 := ho6
  have h := k p e R s m args below meth c QQ hC H locs ls ⟨hP, hz, hS, hl, ho1, ho2, ho3.2, ho4, ho5, ho6⟩
  have hR := hC.2.2.2.2.2.2.2.2.1
  have hts := hC.2.2.2.2.1
  have h8 := mm_few_le hfew
  show W p l e R s m args below meth c H locs ce sl QQ (F0 m pc ls (.ref (mm_ad h0 b0 q) :: t.map (mm_v h0 b0)))
  refine W.objInit hC.1 hC.2.1 hC.2.2.2.1 (hts _ hlk) (hts _ hin) (hts _ hcd) rfl (by rw [hC.2.2.1]; exact hl.1) rfl hd (by omega) (by rw [mm_sum]; show 2 * 0 + t.length + 12 ≤ R.locals; omega) ?_
  exact h
theorem mm_s_max {idx : Nat} {x y : Int} (hd : decode M.2.1 pc = .ok (.invokestatic idx, 3)) (hlk : Cond.methodLink M.1.cls idx Lib.Math.max.name ∈ WS) (hst : Cond.static Lib.Math.max.name ∈ WS) (hit : Cond.initialized "java/lang/Math" ∈ WS) (hcd : Cond.code Lib.Math.max.name Lib.Math.max.code 2 (some .int) ∈ WS) (hfew : mm_few t = true) (k : mm_G l WS cl NW D cT h0 b0 L xs d M Q (pc + 3, lv, .inl (if x < y then y else x) :: t, sh, N, ce, sl)) : mm_G l WS cl NW D cT h0 b0 L xs d M Q (pc, lv, .inl y :: .inl x :: t, sh, N, ce, sl) := by
  intro p e R s m args below meth c QQ hC H locs ls hH
  obtain ⟨hP, hz, hS, hl, ho1, ho2, ho3, ho4, ho5, ho6⟩ := hH
  have hz : s.heap.size + ce = h0 + sh.length := hz
  have ho1 : sh.length ≤ 900 := ho1
  have ho5 : ce ≤ M.2.2.2.2.2.1 := ho5
  have ho6 : sl ≤ M.2.2.2.2.2.2 := ho6
  have h := k p e R s m args below meth c QQ hC H locs ls ⟨hP, hz, hS, hl, ho1, ho2, ⟨by show mm_ir _; split; exact ho3.1; exact ho3.2.1, ho3.2.2⟩, ho4, ho5, ho6⟩
  have hR := hC.2.2.2.2.2.2.2.2.1
  have hts := hC.2.2.2.2.1
  have h8 := mm_few_le hfew
  show W p l e R s m args below meth c H locs ce sl QQ (F0 m pc ls (.int (Int32.ofInt y) :: .int (Int32.ofInt x) :: t.map (mm_v h0 b0)))
  refine va_mmax hC.1 hC.2.1 (by rw [hC.2.2.1]; exact hl.1.symm) hC.2.2.2.1 (hts _ hlk) (hts _ hst) (hts _ hit) (hts _ hcd) (by omega) (by rw [mm_sum]; omega) (by omega) (by omega) hd ?_
  have he : (if Int32.ofInt x < Int32.ofInt y then Int32.ofInt y else Int32.ofInt x) = Int32.ofInt (if x < y then y else x) := by
    by_cases hxy : x < y
    · rw [if_pos hxy, if_pos ((mm_lt ho3.2.1 ho3.1).mpr hxy)]
    · rw [if_neg hxy, if_neg (fun z => hxy ((mm_lt ho3.2.1 ho3.1).mp z))]
  rw [he]
  exact h
theorem mm_s_min {idx : Nat} {x y : Int} (hd : decode M.2.1 pc = .ok (.invokestatic idx, 3)) (hlk : Cond.methodLink M.1.cls idx Lib.Math.min.name ∈ WS) (hst : Cond.static Lib.Math.min.name ∈ WS) (hit : Cond.initialized "java/lang/Math" ∈ WS) (hcd : Cond.code Lib.Math.min.name Lib.Math.min.code 2 (some .int) ∈ WS) (hfew : mm_few t = true) (k : mm_G l WS cl NW D cT h0 b0 L xs d M Q (pc + 3, lv, .inl (if y < x then y else x) :: t, sh, N, ce, sl)) : mm_G l WS cl NW D cT h0 b0 L xs d M Q (pc, lv, .inl y :: .inl x :: t, sh, N, ce, sl) := by
  intro p e R s m args below meth c QQ hC H locs ls hH
  obtain ⟨hP, hz, hS, hl, ho1, ho2, ho3, ho4, ho5, ho6⟩ := hH
  have hz : s.heap.size + ce = h0 + sh.length := hz
  have ho1 : sh.length ≤ 900 := ho1
  have ho5 : ce ≤ M.2.2.2.2.2.1 := ho5
  have ho6 : sl ≤ M.2.2.2.2.2.2 := ho6
  have h := k p e R s m args below meth c QQ hC H locs ls ⟨hP, hz, hS, hl, ho1, ho2, ⟨by show mm_ir _; split; exact ho3.1; exact ho3.2.1, ho3.2.2⟩, ho4, ho5, ho6⟩
  have hR := hC.2.2.2.2.2.2.2.2.1
  have hts := hC.2.2.2.2.1
  have h8 := mm_few_le hfew
  show W p l e R s m args below meth c H locs ce sl QQ (F0 m pc ls (.int (Int32.ofInt y) :: .int (Int32.ofInt x) :: t.map (mm_v h0 b0)))
  refine va_mmin hC.1 hC.2.1 (by rw [hC.2.2.1]; exact hl.1.symm) hC.2.2.2.1 (hts _ hlk) (hts _ hst) (hts _ hit) (hts _ hcd) (by omega) (by rw [mm_sum]; omega) (by omega) (by omega) hd ?_
  have he : (if Int32.ofInt y < Int32.ofInt x then Int32.ofInt y else Int32.ofInt x) = Int32.ofInt (if y < x then y else x) := by
    by_cases hxy : y < x
    · rw [if_pos hxy, if_pos ((mm_lt ho3.1 ho3.2.1).mpr hxy)]
    · rw [if_neg hxy, if_neg (fun z => hxy ((mm_lt ho3.1 ho3.2.1).mp z))]
  rw [he]
  exact h
theorem mm_s_copy {idx q0 q1 n0 n1 : Nat} {n dp sp : Int} {g0 g1 : List (Option (Option Nat))} (hd : decode M.2.1 pc = .ok (.invokestatic idx, 3)) (hlk : Cond.methodLink M.1.cls idx arraycopyName ∈ WS) (hnt : Cond.native arraycopyName ∈ WS) (hst : Cond.static arraycopyName ∈ WS) (hit : Cond.initialized "java/lang/System" ∈ WS) (hfew : mm_few t = true) (hq0 : sh[q0]? = some (1, n0, g0)) (hq1 : sh[q1]? = some (1, n1, g1)) (hnn : 0 ≤ sp ∧ 0 ≤ dp ∧ 0 ≤ n) (h4 : sp + n ≤ n0) (h5 : dp + n ≤ n1)
    (k : mm_G l WS cl NW D cT h0 b0 L xs d M Q (pc + 3, lv, t, sh, mm_f0 N q1 (mm_cp (N q0) (N q1) sp.toNat dp.toNat n.toNat), ce, sl)) : mm_G l WS cl NW D cT h0 b0 L xs d M Q (pc, lv, .inl n :: .inl dp :: .inr (some q1) :: .inl sp :: .inr (some q0) :: t, sh, N, ce, sl) := by
  intro p e R s m args below meth c QQ hC H locs ls hH
  obtain ⟨hP, hz, hS, hl, ho1, ho2, ho3, ho4, ho5, ho6⟩ := hH
  have hz : s.heap.size + ce = h0 + sh.length := hz
  have ho1 : sh.length ≤ 900 := ho1
  have ho5 : ce ≤ M.2.2.2.2.2.1 := ho5
  have ho6 : sl ≤ M.2.2.2.2.2.2 := ho6
  have hR := hC.2.2.2.2.2.2.2.2.1
  have hts := hC.2.2.2.2.1
  have h8 := mm_few_le hfew
  obtain ⟨hn, hdp, -, hsp, -, ht⟩ := ho3
  show W p l e R s m args below meth c H locs ce sl QQ (F0 m pc ls (.int (Int32.ofInt n) :: .int (Int32.ofInt dp) :: .ref (mm_ad h0 b0 q1) :: .int (Int32.ofInt sp) :: .ref (mm_ad h0 b0 q0) :: t.map (mm_v h0 b0)))
  rw [mm_sh_lt (h0 := h0) (b0 := b0) ho1 hq0, mm_sh_lt (h0 := h0) (b0 := b0) ho1 hq1]
  have nf : nativeFrameWords "java/lang/System" "arraycopy" 5 = 7 := by decide +kernel
  refine va_copyi hC.1 hC.2.1 (by rw [hC.2.2.1]; exact hl.1.symm) hC.2.2.2.1 (hts _ hlk) (hts _ hnt) (hts _ hst) (hts _ hit) hC.2.2.2.2.2.2.1.1 hP mm_w_D hS q0 q1 0 0 (mm_w_get hq0) (mm_w_get hq1) rfl rfl rfl ((mm_nonneg hsp).mpr hnn.1) ((mm_nonneg hdp).mpr hnn.2.1) ((mm_nonneg hn).mpr hnn.2.2) (by rw [mm_nat hsp, mm_nat hn]; omega) (by rw [mm_nat hdp, mm_nat hn]; omega) (fun _ _ => rfl) (by omega) (by rw [mm_sum, nf]; omega) hd fun H1 locs1 hP1 _ hS1 => ?_
  rw [mm_nat hsp, mm_nat hdp, mm_nat hn] at hP1
  have he : mm_e h0 b0 cT (mm_f0 N q1 (mm_cp (N q0) (N q1) sp.toNat dp.toNat n.toNat) q1) (1, n1, g1) = .inl (cT 0, n1, .inl (va_cpy (fun j => Int32.ofInt (N q0 j)) (fun j => Int32.ofInt (N q1 j)) sp.toNat dp.toNat n.toNat)) := by
    rw [mm_f0_self]
    have : (fun j => Int32.ofInt (mm_cp (N q0) (N q1) sp.toNat dp.toNat n.toNat j)) = va_cpy (fun j => Int32.ofInt (N q0 j)) (fun j => Int32.ofInt (N q1 j)) sp.toNat dp.toNat n.toNat := by
      funext j
      unfold mm_cp va_cpy
      split <;> rfl
    rw [← this]
    rfl
  rw [mm_w_setN (N' := mm_f0 N q1 (mm_cp (N q0) (N q1) sp.toNat dp.toNat n.toNat)) hq1 (fun a ha => mm_f0_ne ha) he] at hP1
  exact k p e R s m args below meth c QQ hC H1 locs1 ls ⟨hP1, hz, hS1, hl, ho1, mm_ir_f0 ho2 (fun b => by unfold mm_cp; split; exact ho2 _ _; exact ho2 _ _), ht, ho4, ho5, ho6⟩
theorem mm_s_switch {dflt lo hi : Int} {offs : Array Int} {len : Nat} {x : Int} (hd : decode M.2.1 pc = .ok (.tableswitch dflt lo hi offs, len)) (h1 : 0 ≤ (pc : Int) + dflt) (h2 : hi - lo < offs.size) (h3 : ∀ o ∈ offs.toList, 0 ≤ (pc : Int) + o) (k : mm_G l WS cl NW D cT h0 b0 L xs d M Q (mm_tgt pc dflt lo hi offs x, lv, t, sh, N, ce, sl)) : mm_G l WS cl NW D cT h0 b0 L xs d M Q (pc, lv, .inl x :: t, sh, N, ce, sl) := by
  intro p e R s m args below meth c QQ hC H locs ls hH
  obtain ⟨hP, hz, hS, hl, ho1, ho2, ho3, ho4, ho5, ho6⟩ := hH
  have hz : s.heap.size + ce = h0 + sh.length := hz
  have ho1 : sh.length ≤ 900 := ho1
  have ho5 : ce ≤ M.2.2.2.2.2.1 := ho5
  have ho6 : sl ≤ M.2.2.2.2.2.2 := ho6
  have h := k p e R s m args below meth c QQ hC H locs ls ⟨hP, hz, hS, hl, ho1, ho2, ho3.2, ho4, ho5, ho6⟩
  show W p l e R s m args below meth c H locs ce sl QQ (F0 m pc ls (.int (Int32.ofInt x) :: t.map (mm_v h0 b0)))
  have hx := mm_to ho3.1
  by_cases hr : x < lo ∨ hi < x
  · refine lv_tableOut (tgt := mm_tgt pc dflt lo hi offs x) hC.1 hC.2.1 hd (by rw [hx]; exact hr) ?_ h
    unfold mm_tgt
    rw [if_pos hr]
    omega
  · have hlt : (x - lo).toNat < offs.size := by omega
    refine lv_tableIn (tgt := mm_tgt pc dflt lo hi offs x) (off := offs[(x - lo).toNat]) hC.1 hC.2.1 hd (by rw [hx]; omega) (by rw [hx]; omega) (by rw [hx]; exact Array.getElem?_eq_getElem hlt) ?_ h
    unfold mm_tgt
    rw [if_neg hr]
    have hg : offs.toList.getD (x - lo).toNat 0 = offs[(x - lo).toNat] := by
      rw [List.getD_eq_getElem?_getD, Array.getElem?_toList, Array.getElem?_eq_getElem hlt]
      rfl
    rw [hg]
    have := h3 offs[(x - lo).toNat] (by simp)
    omega
end MMK
