/-! steps that read and write the heap -/
section MMJ
variable {l : Launch} {WS : List Cond} {cl : List vw_C} {NW : mm_NW} {D : va_G} {cT : Nat → ClassId} {h0 b0 L : Nat} {xs : Nat → Int}
variable {d : Nat} {M : mm_M} {Q : mm_Q} {pc ce sl : Nat} {lv : List (Nat × mm_V)} {st t : List mm_V} {sh : List mm_S} {N : mm_N}
theorem mm_size {p : Program} {e : Env} {R : Room} {s : State} {m : MethodId} {args : Array Value} {below : List Frame} {meth : Method} {c : Code} {H : Heap} {locs : List Loc} {QQ : State → Prop} {g : JFrame} (k : H.size ≤ s.heap.size + ce → W p l e R s m args below meth c H locs ce sl QQ g) : W p l e R s m args below meth c H locs ce sl QQ g := by
  intro T hT X
  refine k ?_ T hT X
  have h := X.same.2.2.1
  rw [← hT]
  exact h
theorem mm_exact {H : Heap} {s : State} {locs : List Loc} (hP : va_P D cl (mm_w h0 b0 cT sh N) H) (hz : s.heap.size + ce = h0 + sh.length) (hS : va_S (mm_A h0) s.heap H locs) (hh : h0 ≤ s.heap.size) (h : H.size ≤ s.heap.size + ce) : H.size = h0 + sh.length := by
  by_cases h1 : sh.length = 0
  · have := hS.1
    omega
  · have hlt : sh.length - 1 < sh.length := by omega
    have h2 := (hP _ _ (mm_w_get (h0 := h0) (b0 := b0) (cT := cT) (N := N) (List.getElem?_eq_getElem hlt))).lt
    have h3 : h0 + (sh.length - 1) < H.size := h2
    omega
theorem mm_sh_lt {q : Nat} {x : mm_S} (ho1 : sh.length ≤ 900) (h : sh[q]? = some x) : mm_ad h0 b0 q = h0 + q := by
  have := (List.getElem?_eq_some_iff.mp h).1
  exact mm_ad_lt (by omega)
def mm_fo (x : Int) (f : Option (Option Nat)) : mm_V := match f with
  | none => .inl x
  | some v => .inr v
theorem mm_s_getfield {idx a b q : Nat} {fs : List (Option (Option Nat))} {f : Option (Option Nat)} {r : vw_C} (hd : decode M.2.1 pc = .ok (.getfield idx, 3)) (hr : cl[a]? = some r) (hw : ∀ w ∈ u_ws r.1 r.2.1 r.2.2, w ∈ WS) (hb : b < r.2.2) (hk : Cond.fieldLink M.1.cls idx (r.2.1 b).1 (r.2.1 b).2.1 (r.2.1 b).2.2.1 ∈ WS)
    (hq : sh[q]? = some (0, a, fs)) (hf : fs[b]? = some f) {v : mm_V} (hv : v = mm_fo (N q b) f) (k : mm_G l WS cl NW D cT h0 b0 L xs d M Q (pc + 3, lv, v :: t, sh, N, ce, sl)) : mm_G l WS cl NW D cT h0 b0 L xs d M Q (pc, lv, .inr (some q) :: t, sh, N, ce, sl) := by
  intro p e R s m args below meth c QQ hC H locs ls hH
  obtain ⟨hP, hz, hS, hl, ho1, ho2, ho3, ho4, ho5, ho6⟩ := hH
  obtain ⟨C, T, n⟩ := r
  have h := k p e R s m args below meth c QQ hC H locs ls ⟨hP, hz, hS, hl, ho1, ho2, ⟨by rw [hv]; cases f with | none => exact ho2 q b | some v => trivial, ho3.2⟩, ho4, ho5, ho6⟩
  show W p l e R s m args below meth c H locs ce sl QQ (F0 m pc ls (.ref (mm_ad h0 b0 q) :: t.map (mm_v h0 b0)))
  rw [mm_sh_lt (h0 := h0) (b0 := b0) ho1 hq]
  refine va_get (v := mm_v h0 b0 v) hC.1 hC.2.1 hC.2.2.2.2.1 hw hC.2.2.2.1 hC.2.2.2.2.2.2.1.1 hP q (mm_w_get hq) hr b hb (hC.2.2.2.2.1 _ hk) (fun _ z => z) (by rw [List.getElem?_mapIdx, hf, hv]; cases f <;> rfl) hd h
theorem mm_s_putI {idx a b q : Nat} {fs : List (Option (Option Nat))} {z : Int} {r : vw_C} {ft : Nat → FieldType} (hd : decode M.2.1 pc = .ok (.putfield idx, 3)) (hr : cl[a]? = some r) (hw : ∀ w ∈ u_ws r.1 r.2.1 r.2.2, w ∈ WS) (hty : ∀ k, k < r.2.2 → parseFieldDescriptor (r.2.1 k).2.2.1 = some (ft k)) (hnm : ∀ a, a < r.2.2 → ∀ b, b < r.2.2 → a ≠ b → (r.2.1 a).2.1 ≠ (r.2.1 b).2.1)
    (hb : b < r.2.2) (hk : Cond.fieldLink M.1.cls idx (r.2.1 b).1 (r.2.1 b).2.1 (r.2.1 b).2.2.1 ∈ WS) (hfin : (r.2.1 b).2.2.2 = false) (hft : ft b = .int ∨ (ft b = .boolean ∧ (z = 0 ∨ z = 1)))
    (hq : sh[q]? = some (0, a, fs)) (hf : fs[b]? = some none) (k : mm_G l WS cl NW D cT h0 b0 L xs d M Q (pc + 3, lv, t, sh, mm_f2 N q b z, ce, sl)) : mm_G l WS cl NW D cT h0 b0 L xs d M Q (pc, lv, .inl z :: .inr (some q) :: t, sh, N, ce, sl) := by
  intro p e R s m args below meth c QQ hC H locs ls hH
  obtain ⟨hP, hz, hS, hl, ho1, ho2, ho3, ho4, ho5, ho6⟩ := hH
  obtain ⟨C, T, n⟩ := r
  show W p l e R s m args below meth c H locs ce sl QQ (F0 m pc ls (.int (Int32.ofInt z) :: .ref (mm_ad h0 b0 q) :: t.map (mm_v h0 b0)))
  rw [mm_sh_lt (h0 := h0) (b0 := b0) ho1 hq]
  have hn : narrow (ft b) (.int (Int32.ofInt z)) = .int (Int32.ofInt z) ∧ fits (ft b) (.int (Int32.ofInt z)) = true := by
    rcases hft with h | ⟨h, h2⟩
    · rw [h]; exact ⟨rfl, rfl⟩
    · rw [h]
      rcases h2 with rfl | rfl
      · exact ⟨by decide +kernel, by decide +kernel⟩
      · exact ⟨by decide +kernel, by decide +kernel⟩
  refine va_put hC.1 hC.2.1 hC.2.2.2.2.1 hw ft hty hnm hC.2.2.2.1 hC.2.2.2.2.2.2.1.1 hP mm_w_D hS q (mm_w_get hq) hr b hb (hC.2.2.2.2.1 _ hk) (fun _ z => z) hfin (hty b hb) hn.1 hn.2 (by rw [List.length_mapIdx]; exact (List.getElem?_eq_some_iff.mp hf).1) hd fun H1 locs1 hP1 _ hS1 => ?_
  have he : mm_e h0 b0 cT (mm_f2 N q b z q) (0, a, fs) = .inr (a, (fs.mapIdx (mm_fv h0 b0 (N q))).set b (.int (Int32.ofInt z))) := by
    unfold mm_f2
    rw [mm_f0_self, ← mm_fv_set hf]
    rfl
  rw [mm_w_setN (N' := mm_f2 N q b z) hq (fun a ha => mm_f0_ne ha) he] at hP1
  exact k p e R s m args below meth c QQ hC H1 locs1 ls ⟨hP1, hz, hS1, hl, ho1, mm_ir_f2 ho2 ho3.1, ho3.2.2, ho4, ho5, ho6⟩
theorem mm_s_putR {idx a b q o : Nat} {fs : List (Option (Option Nat))} {g0 : Option Nat} {r : vw_C} {ft : Nat → FieldType} (hd : decode M.2.1 pc = .ok (.putfield idx, 3)) (hr : cl[a]? = some r) (hw : ∀ w ∈ u_ws r.1 r.2.1 r.2.2, w ∈ WS) (hty : ∀ k, k < r.2.2 → parseFieldDescriptor (r.2.1 k).2.2.1 = some (ft k)) (hnm : ∀ a, a < r.2.2 → ∀ b, b < r.2.2 → a ≠ b → (r.2.1 a).2.1 ≠ (r.2.1 b).2.1)
    (hb : b < r.2.2) (hk : Cond.fieldLink M.1.cls idx (r.2.1 b).1 (r.2.1 b).2.1 (r.2.1 b).2.2.1 ∈ WS) (hfin : (r.2.1 b).2.2.2 = true) (hini : M.1.name = "<init>") (hdecl : (r.2.1 b).1 = M.1.cls) (hft : (∃ C, ft b = .object C) ∨ ∃ C, ft b = .array C)
    (hq : sh[q]? = some (0, a, fs)) (hf : fs[b]? = some (some g0)) (k : mm_G l WS cl NW D cT h0 b0 L xs d M Q (pc + 3, lv, t, sh.set q (0, a, fs.set b (some (some o))), N, ce, sl)) : mm_G l WS cl NW D cT h0 b0 L xs d M Q (pc, lv, .inr (some o) :: .inr (some q) :: t, sh, N, ce, sl) := by
  intro p e R s m args below meth c QQ hC H locs ls hH
  obtain ⟨hP, hz, hS, hl, ho1, ho2, ho3, ho4, ho5, ho6⟩ := hH
  obtain ⟨C, T, n⟩ := r
  show W p l e R s m args below meth c H locs ce sl QQ (F0 m pc ls (.ref (mm_ad h0 b0 o) :: .ref (mm_ad h0 b0 q) :: t.map (mm_v h0 b0)))
  rw [mm_sh_lt (h0 := h0) (b0 := b0) ho1 hq]
  have hlt : b < fs.length := (List.getElem?_eq_some_iff.mp hf).1
  have hn : narrow (ft b) (.ref (mm_ad h0 b0 o)) = .ref (mm_ad h0 b0 o) ∧ fits (ft b) (.ref (mm_ad h0 b0 o)) = true := by
    rcases hft with ⟨C2, h⟩ | ⟨C2, h⟩
    · rw [h]; exact ⟨rfl, rfl⟩
    · rw [h]; exact ⟨rfl, rfl⟩
  refine va_putF hC.1 hC.2.1 hC.2.2.2.2.1 hw ft hty hnm hC.2.2.2.1 hC.2.2.2.2.2.2.1.1 hP mm_w_D hS q (mm_w_get hq) hr b hb (hC.2.2.2.2.1 _ hk) (fun _ z => z) hfin (hC.2.2.2.2.2.1 hini) hdecl (hty b hb) hn.1 hn.2 (by rw [List.length_mapIdx]; exact hlt) hd fun H1 locs1 hP1 _ hS1 => ?_
  have he : mm_e h0 b0 cT (N q) (0, a, fs.set b (some (some o))) = .inr (a, (fs.mapIdx (mm_fv h0 b0 (N q))).set b (.ref (mm_ad h0 b0 o))) := by
    rw [← mm_fv_ref hlt]
    rfl
  rw [mm_w_set (N' := N) hq (fun a ha => rfl) he] at hP1
  exact k p e R s m args below meth c QQ hC H1 locs1 ls ⟨hP1, by rw [List.length_set]; exact hz, hS1, hl, by rw [List.length_set]; exact ho1, ho2, ho3.2.2, ho4, ho5, ho6⟩
theorem mm_s_iaload {q n : Nat} {i : Int} {gs : List (Option (Option Nat))} (hd : decode M.2.1 pc = .ok (.iaload, 1)) (hq : sh[q]? = some (1, n, gs)) (hi : 0 ≤ i ∧ i < n) (k : mm_G l WS cl NW D cT h0 b0 L xs d M Q (pc + 1, lv, .inl (N q i.toNat) :: t, sh, N, ce, sl)) : mm_G l WS cl NW D cT h0 b0 L xs d M Q (pc, lv, .inl i :: .inr (some q) :: t, sh, N, ce, sl) := by
  intro p e R s m args below meth c QQ hC H locs ls hH
  obtain ⟨hP, hz, hS, hl, ho1, ho2, ho3, ho4, ho5, ho6⟩ := hH
  have h := k p e R s m args below meth c QQ hC H locs ls ⟨hP, hz, hS, hl, ho1, ho2, ⟨ho2 q i.toNat, ho3.2.2⟩, ho4, ho5, ho6⟩
  show W p l e R s m args below meth c H locs ce sl QQ (F0 m pc ls (.int (Int32.ofInt i) :: .ref (mm_ad h0 b0 q) :: t.map (mm_v h0 b0)))
  rw [mm_sh_lt (h0 := h0) (b0 := b0) ho1 hq]
  refine va_iald hC.1 hC.2.1 hC.2.2.2.2.2.2.1.1 hP q 0 (mm_w_get hq) rfl (mm_inb ho3.1 hi) hd ?_
  rw [mm_nat ho3.1]
  exact h
theorem mm_s_baload {q n : Nat} {i : Int} {gs : List (Option (Option Nat))} (hd : decode M.2.1 pc = .ok (.baload, 1)) (hq : sh[q]? = some (2, n, gs)) (hi : 0 ≤ i ∧ i < n) (k : mm_G l WS cl NW D cT h0 b0 L xs d M Q (pc + 1, lv, .inl (N q i.toNat) :: t, sh, N, ce, sl)) : mm_G l WS cl NW D cT h0 b0 L xs d M Q (pc, lv, .inl i :: .inr (some q) :: t, sh, N, ce, sl) := by
  intro p e R s m args below meth c QQ hC H locs ls hH
  obtain ⟨hP, hz, hS, hl, ho1, ho2, ho3, ho4, ho5, ho6⟩ := hH
  have h := k p e R s m args below meth c QQ hC H locs ls ⟨hP, hz, hS, hl, ho1, ho2, ⟨ho2 q i.toNat, ho3.2.2⟩, ho4, ho5, ho6⟩
  show W p l e R s m args below meth c H locs ce sl QQ (F0 m pc ls (.int (Int32.ofInt i) :: .ref (mm_ad h0 b0 q) :: t.map (mm_v h0 b0)))
  rw [mm_sh_lt (h0 := h0) (b0 := b0) ho1 hq]
  refine va_zald hC.1 hC.2.1 hC.2.2.2.2.2.2.1.1 hP q 1 (mm_w_get hq) rfl (mm_inb ho3.1 hi) hd ?_
  rw [mm_nat ho3.1]
  exact h
theorem mm_s_sload {i : Int} (hL : ∀ j, mm_ir (xs j)) (hd : decode M.2.1 pc = .ok (.iaload, 1)) (hi : 0 ≤ i ∧ i < L) (k : mm_G l WS cl NW D cT h0 b0 L xs d M Q (pc + 1, lv, .inl (xs i.toNat) :: t, sh, N, ce, sl)) : mm_G l WS cl NW D cT h0 b0 L xs d M Q (pc, lv, .inl i :: .inr (some 1000) :: t, sh, N, ce, sl) := by
  intro p e R s m args below meth c QQ hC H locs ls hH
  obtain ⟨hP, hz, hS, hl, ho1, ho2, ho3, ho4, ho5, ho6⟩ := hH
  have h := k p e R s m args below meth c QQ hC H locs ls ⟨hP, hz, hS, hl, ho1, ho2, ⟨hL _, ho3.2.2⟩, ho4, ho5, ho6⟩
  show W p l e R s m args below meth c H locs ce sl QQ (F0 m pc ls (.int (Int32.ofInt i) :: .ref b0 :: t.map (mm_v h0 b0)))
  have hb := hC.2.2.2.2.2.2.2.1
  refine va_sld (A := mm_A h0) hC.1 hC.2.1 hC.2.2.2.2.2.2.1.2.1 (by omega) (fun z => by have z : h0 ≤ b0 := z; omega) hS (mm_inb ho3.1 hi) hd ?_
  rw [mm_nat ho3.1]
  exact h
theorem mm_s_slen (hL : mm_ir (L : Int)) (hd : decode M.2.1 pc = .ok (.arraylength, 1)) (k : mm_G l WS cl NW D cT h0 b0 L xs d M Q (pc + 1, lv, .inl (L : Int) :: t, sh, N, ce, sl)) : mm_G l WS cl NW D cT h0 b0 L xs d M Q (pc, lv, .inr (some 1000) :: t, sh, N, ce, sl) := by
  intro p e R s m args below meth c QQ hC H locs ls hH
  obtain ⟨hP, hz, hS, hl, ho1, ho2, ho3, ho4, ho5, ho6⟩ := hH
  have h := k p e R s m args below meth c QQ hC H locs ls ⟨hP, hz, hS, hl, ho1, ho2, ⟨hL, ho3.2⟩, ho4, ho5, ho6⟩
  show W p l e R s m args below meth c H locs ce sl QQ (F0 m pc ls (.ref b0 :: t.map (mm_v h0 b0)))
  have hb := hC.2.2.2.2.2.2.2.1
  refine va_slen (A := mm_A h0) hC.1 hC.2.1 hC.2.2.2.2.2.2.1.2.1 (by omega) (fun z => by have z : h0 ≤ b0 := z; omega) hS hd ?_
  rw [← Int32.ofInt_eq_ofNat]
  exact h
theorem mm_s_iastore {q n : Nat} {i z : Int} {gs : List (Option (Option Nat))} (hd : decode M.2.1 pc = .ok (.iastore, 1)) (hq : sh[q]? = some (1, n, gs)) (hi : 0 ≤ i ∧ i < n) (k : mm_G l WS cl NW D cT h0 b0 L xs d M Q (pc + 1, lv, t, sh, mm_f2 N q i.toNat z, ce, sl)) : mm_G l WS cl NW D cT h0 b0 L xs d M Q (pc, lv, .inl z :: .inl i :: .inr (some q) :: t, sh, N, ce, sl) := by
  intro p e R s m args below meth c QQ hC H locs ls hH
  obtain ⟨hP, hz, hS, hl, ho1, ho2, ho3, ho4, ho5, ho6⟩ := hH
  show W p l e R s m args below meth c H locs ce sl QQ (F0 m pc ls (.int (Int32.ofInt z) :: .int (Int32.ofInt i) :: .ref (mm_ad h0 b0 q) :: t.map (mm_v h0 b0)))
  rw [mm_sh_lt (h0 := h0) (b0 := b0) ho1 hq]
  refine va_iast hC.1 hC.2.1 hC.2.2.2.2.2.2.1.1 hP mm_w_D hS q 0 (mm_w_get hq) rfl (mm_inb ho3.2.1 hi) hd fun H1 locs1 hP1 _ hS1 => ?_
  rw [mm_nat ho3.2.1] at hP1
  have he : mm_e h0 b0 cT (mm_f2 N q i.toNat z q) (1, n, gs) = .inl (cT 0, n, .inl (upd (fun j => Int32.ofInt (N q j)) i.toNat (Int32.ofInt z))) := by
    unfold mm_f2
    rw [mm_f0_self, mm_upd]
    rfl
  rw [mm_w_setN (N' := mm_f2 N q i.toNat z) hq (fun a ha => mm_f0_ne ha) he] at hP1
  exact k p e R s m args below meth c QQ hC H1 locs1 ls ⟨hP1, hz, hS1, hl, ho1, mm_ir_f2 ho2 ho3.1, ho3.2.2.2, ho4, ho5, ho6⟩
theorem mm_s_bastore {q n : Nat} {i z : Int} {gs : List (Option (Option Nat))} (hd : decode M.2.1 pc = .ok (.bastore, 1)) (hq : sh[q]? = some (2, n, gs)) (hz1 : z = 0 ∨ z = 1) (hi : 0 ≤ i ∧ i < n) (k : mm_G l WS cl NW D cT h0 b0 L xs d M Q (pc + 1, lv, t, sh, mm_f2 N q i.toNat z, ce, sl)) : mm_G l WS cl NW D cT h0 b0 L xs d M Q (pc, lv, .inl z :: .inl i :: .inr (some q) :: t, sh, N, ce, sl) := by
  intro p e R s m args below meth c QQ hC H locs ls hH
  obtain ⟨hP, hz, hS, hl, ho1, ho2, ho3, ho4, ho5, ho6⟩ := hH
  show W p l e R s m args below meth c H locs ce sl QQ (F0 m pc ls (.int (Int32.ofInt z) :: .int (Int32.ofInt i) :: .ref (mm_ad h0 b0 q) :: t.map (mm_v h0 b0)))
  rw [mm_sh_lt (h0 := h0) (b0 := b0) ho1 hq]
  have hnar : vp_nar .boolean (Int32.ofInt z) = Int32.ofInt z := by
    rcases hz1 with rfl | rfl
    · decide +kernel
    · decide +kernel
  refine va_zast hC.1 hC.2.1 hC.2.2.2.2.2.2.1.1 hP mm_w_D hS q 1 (mm_w_get hq) rfl (mm_inb ho3.2.1 hi) hd fun H1 locs1 hP1 _ hS1 => ?_
  rw [mm_nat ho3.2.1, hnar] at hP1
  have he : mm_e h0 b0 cT (mm_f2 N q i.toNat z q) (2, n, gs) = .inl (cT 1, n, .inl (upd (fun j => Int32.ofInt (N q j)) i.toNat (Int32.ofInt z))) := by
    unfold mm_f2
    rw [mm_f0_self, mm_upd]
    rfl
  rw [mm_w_setN (N' := mm_f2 N q i.toNat z) hq (fun a ha => mm_f0_ne ha) he] at hP1
  exact k p e R s m args below meth c QQ hC H1 locs1 ls ⟨hP1, hz, hS1, hl, ho1, mm_ir_f2 ho2 ho3.1, ho3.2.2.2, ho4, ho5, ho6⟩
theorem mm_ty_q {kk : Nat} (hk : kk < 2) : (mm_ty cl cT)[kk + 2]? = some (cT (kk + 2), .object (mm_cn cl (bif Nat.beq kk 0 then 2 else 5))) := by
  match kk, hk with
  | 0, _ => rfl
  | 1, _ => rfl
theorem mm_s_aaload {q n kk : Nat} {i : Int} {fs : List (Option (Option Nat))} {r : Nat} (hd : decode M.2.1 pc = .ok (.aaload, 1)) (hq : sh[q]? = some (kk + 3, n, fs)) (hkk : kk < 2) (hi : 0 ≤ i ∧ i < n) (hr : fs[i.toNat]? = some (some (some r))) (k : mm_G l WS cl NW D cT h0 b0 L xs d M Q (pc + 1, lv, .inr (some r) :: t, sh, N, ce, sl)) : mm_G l WS cl NW D cT h0 b0 L xs d M Q (pc, lv, .inl i :: .inr (some q) :: t, sh, N, ce, sl) := by
  intro p e R s m args below meth c QQ hC H locs ls hH
  obtain ⟨hP, hz, hS, hl, ho1, ho2, ho3, ho4, ho5, ho6⟩ := hH
  have h := k p e R s m args below meth c QQ hC H locs ls ⟨hP, hz, hS, hl, ho1, ho2, ⟨trivial, ho3.2.2⟩, ho4, ho5, ho6⟩
  show W p l e R s m args below meth c H locs ce sl QQ (F0 m pc ls (.int (Int32.ofInt i) :: .ref (mm_ad h0 b0 q) :: t.map (mm_v h0 b0)))
  rw [mm_sh_lt (h0 := h0) (b0 := b0) ho1 hq]
  refine va_aldq hC.1 hC.2.1 hC.2.2.2.2.2.2.1.1 hP q (kk + 2) (mm_w_get hq) (mm_ty_q hkk) (mm_inb ho3.1 hi) hd ?_
  rw [mm_nat ho3.1]
  have hv : va_rf (mm_rv h0 b0 fs i.toNat) = .ref (mm_ad h0 b0 r) := by
    unfold mm_rv
    rw [hr]
    rfl
  rw [hv]
  exact h
theorem mm_s_aastore {q n kk o : Nat} {i : Int} {fs gs : List (Option (Option Nat))} {r : vw_C} (hd : decode M.2.1 pc = .ok (.aastore, 1)) (hq : sh[q]? = some (kk + 3, n, fs)) (hkk : kk < 2) (hi : 0 ≤ i ∧ i < n) (hn : fs.length = n) (ho : sh[o]? = some (0, (bif Nat.beq kk 0 then 2 else 5), gs)) (hr : cl[bif Nat.beq kk 0 then 2 else 5]? = some r) (k : mm_G l WS cl NW D cT h0 b0 L xs d M Q (pc + 1, lv, t, sh.set q (kk + 3, n, fs.set i.toNat (some (some o))), N, ce, sl)) : mm_G l WS cl NW D cT h0 b0 L xs d M Q (pc, lv, .inr (some o) :: .inl i :: .inr (some q) :: t, sh, N, ce, sl) := by
  intro p e R s m args below meth c QQ hC H locs ls hH
  obtain ⟨hP, hz, hS, hl, ho1, ho2, ho3, ho4, ho5, ho6⟩ := hH
  show W p l e R s m args below meth c H locs ce sl QQ (F0 m pc ls (.ref (mm_ad h0 b0 o) :: .int (Int32.ofInt i) :: .ref (mm_ad h0 b0 q) :: t.map (mm_v h0 b0)))
  rw [mm_sh_lt (h0 := h0) (b0 := b0) ho1 hq, mm_sh_lt (h0 := h0) (b0 := b0) ho1 ho]
  have hcn : mm_cn cl (bif Nat.beq kk 0 then 2 else 5) = r.1 := by
    unfold mm_cn
    rw [hr]
  refine va_astq (r := r) hC.1 hC.2.1 hC.2.2.2.2.2.2.1.1 hP mm_w_D hS q (kk + 2) o (bif Nat.beq kk 0 then 2 else 5) (mm_w_get hq) (by rw [mm_ty_q hkk, hcn]) (mm_w_get ho) hr (mm_inb ho3.2.1 hi) hd fun H1 locs1 hP1 _ hS1 => ?_
  rw [mm_nat ho3.2.1] at hP1
  have hlt : i.toNat < fs.length := by omega
  have he : mm_e h0 b0 cT (N q) (kk + 3, n, fs.set i.toNat (some (some o))) = .inl (cT (kk + 2), n, .inr (.inr (.inr (.inr (va_up (mm_rv h0 b0 fs) i.toNat (some (h0 + o))))))) := by
    show (Sum.inl (cT (kk + 2), n, .inr (.inr (.inr (.inr (mm_rv h0 b0 (fs.set i.toNat (some (some o)))))))) : va_E) = _
    have : mm_rv h0 b0 (fs.set i.toNat (some (some o))) = va_up (mm_rv h0 b0 fs) i.toNat (some (h0 + o)) := by
      funext j
      unfold mm_rv va_up
      by_cases hj : j = i.toNat
      · subst hj
        rw [List.getElem?_set_self hlt, if_pos rfl]
        show some (mm_ad h0 b0 o) = _
        rw [mm_sh_lt (h0 := h0) (b0 := b0) ho1 ho]
      · rw [List.getElem?_set_ne (fun z => hj z.symm), if_neg hj]
    rw [this]
  rw [mm_w_set (N' := N) hq (fun a ha => rfl) he] at hP1
  exact k p e R s m args below meth c QQ hC H1 locs1 ls ⟨hP1, by rw [List.length_set]; exact hz, hS1, hl, by rw [List.length_set]; exact ho1, ho2, ho3.2.2.2, ho4, ho5, ho6⟩
end MMJ
