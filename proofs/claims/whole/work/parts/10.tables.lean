/-- a hidden method that the tables say can be made, by its rows of tables_1 -/
def lw_okq (q : MethodName × Nat) : Prop := (q.1.cls ≠ "java/lang/invoke/MethodHandle" ∧ q.1.cls ≠ "java/lang/invoke/VarHandle") ∧ Cond.instantiable q.1.cls q.2 ∈ tables_1 ∧ Cond.privateMethod q.1 ∈ tables_1 ∧ Cond.instanceMethod q.1 ∈ tables_1
theorem lw_p0 : lw_okq (⟨"LoggedSagaDesk", "writeRecord", "(III)V"⟩, 8) := ⟨⟨by decide +kernel, by decide +kernel⟩, List.mem_of_getElem? (i := 11) (by decide +kernel), List.mem_of_getElem? (i := 165) (by decide +kernel), List.mem_of_getElem? (i := 166) (by decide +kernel)⟩
theorem lw_p1 : lw_okq (⟨"LoggedSagaDesk", "readRecord", "(I)V"⟩, 8) := ⟨⟨by decide +kernel, by decide +kernel⟩, List.mem_of_getElem? (i := 11) (by decide +kernel), List.mem_of_getElem? (i := 177) (by decide +kernel), List.mem_of_getElem? (i := 178) (by decide +kernel)⟩
theorem lw_p2 : lw_okq (⟨"LoggedSagaDesk", "sendIfWaiting", "(I)Z"⟩, 8) := ⟨⟨by decide +kernel, by decide +kernel⟩, List.mem_of_getElem? (i := 11) (by decide +kernel), List.mem_of_getElem? (i := 219) (by decide +kernel), List.mem_of_getElem? (i := 220) (by decide +kernel)⟩
theorem lw_p3 : lw_okq (⟨"LoggedSagaDesk", "isWaiting", "(I)Z"⟩, 8) := ⟨⟨by decide +kernel, by decide +kernel⟩, List.mem_of_getElem? (i := 11) (by decide +kernel), List.mem_of_getElem? (i := 223) (by decide +kernel), List.mem_of_getElem? (i := 224) (by decide +kernel)⟩
theorem lw_p4 : lw_okq (⟨"LoggedSagaDesk", "nextRequest", "(I)I"⟩, 8) := ⟨⟨by decide +kernel, by decide +kernel⟩, List.mem_of_getElem? (i := 11) (by decide +kernel), List.mem_of_getElem? (i := 240) (by decide +kernel), List.mem_of_getElem? (i := 241) (by decide +kernel)⟩
theorem lw_p5 : lw_okq (⟨"LoggedSagaDesk", "takeRequest", "(I)I"⟩, 8) := ⟨⟨by decide +kernel, by decide +kernel⟩, List.mem_of_getElem? (i := 11) (by decide +kernel), List.mem_of_getElem? (i := 283) (by decide +kernel), List.mem_of_getElem? (i := 284) (by decide +kernel)⟩
theorem lw_p6 : lw_okq (⟨"LoggedSagaDesk", "takeReply", "(I)I"⟩, 8) := ⟨⟨by decide +kernel, by decide +kernel⟩, List.mem_of_getElem? (i := 11) (by decide +kernel), List.mem_of_getElem? (i := 329) (by decide +kernel), List.mem_of_getElem? (i := 330) (by decide +kernel)⟩
theorem lw_p7 : lw_okq (⟨"LoggedSagaDesk", "readLogAgain", "()V"⟩, 8) := ⟨⟨by decide +kernel, by decide +kernel⟩, List.mem_of_getElem? (i := 11) (by decide +kernel), List.mem_of_getElem? (i := 363) (by decide +kernel), List.mem_of_getElem? (i := 364) (by decide +kernel)⟩
theorem lw_p8 : lw_okq (⟨"LoggedSagaDeskModel", "isMessage", "(I)Z"⟩, 21) := ⟨⟨by decide +kernel, by decide +kernel⟩, List.mem_of_getElem? (i := 430) (by decide +kernel), List.mem_of_getElem? (i := 512) (by decide +kernel), List.mem_of_getElem? (i := 513) (by decide +kernel)⟩
theorem lw_p9 : lw_okq (⟨"LoggedSagaDeskModel", "remove", "(I)V"⟩, 21) := ⟨⟨by decide +kernel, by decide +kernel⟩, List.mem_of_getElem? (i := 430) (by decide +kernel), List.mem_of_getElem? (i := 516) (by decide +kernel), List.mem_of_getElem? (i := 517) (by decide +kernel)⟩
theorem lw_p10 : lw_okq (⟨"LoggedSagaDeskModel", "send", "(IIII)V"⟩, 21) := ⟨⟨by decide +kernel, by decide +kernel⟩, List.mem_of_getElem? (i := 430) (by decide +kernel), List.mem_of_getElem? (i := 524) (by decide +kernel), List.mem_of_getElem? (i := 525) (by decide +kernel)⟩
theorem lw_p11 : lw_okq (⟨"LoggedSagaDeskModel", "request", "(III)I"⟩, 21) := ⟨⟨by decide +kernel, by decide +kernel⟩, List.mem_of_getElem? (i := 430) (by decide +kernel), List.mem_of_getElem? (i := 532) (by decide +kernel), List.mem_of_getElem? (i := 533) (by decide +kernel)⟩
theorem lw_p12 : lw_okq (⟨"LoggedSagaDeskModel", "nodeOf", "(II)I"⟩, 21) := ⟨⟨by decide +kernel, by decide +kernel⟩, List.mem_of_getElem? (i := 430) (by decide +kernel), List.mem_of_getElem? (i := 536) (by decide +kernel), List.mem_of_getElem? (i := 537) (by decide +kernel)⟩
theorem lw_p13 : lw_okq (⟨"LoggedSagaDeskModel", "read", "(I)V"⟩, 21) := ⟨⟨by decide +kernel, by decide +kernel⟩, List.mem_of_getElem? (i := 430) (by decide +kernel), List.mem_of_getElem? (i := 540) (by decide +kernel), List.mem_of_getElem? (i := 541) (by decide +kernel)⟩
theorem lw_p14 : lw_okq (⟨"LoggedSagaDeskModel", "reply", "(IIII)I"⟩, 21) := ⟨⟨by decide +kernel, by decide +kernel⟩, List.mem_of_getElem? (i := 430) (by decide +kernel), List.mem_of_getElem? (i := 544) (by decide +kernel), List.mem_of_getElem? (i := 545) (by decide +kernel)⟩
theorem lw_p15 : lw_okq (⟨"LoggedSagaDeskModel", "waits", "()Z"⟩, 21) := ⟨⟨by decide +kernel, by decide +kernel⟩, List.mem_of_getElem? (i := 430) (by decide +kernel), List.mem_of_getElem? (i := 548) (by decide +kernel), List.mem_of_getElem? (i := 549) (by decide +kernel)⟩
def lw_privs_1 : List (MethodName × Nat) := [(⟨"LoggedSagaDesk", "writeRecord", "(III)V"⟩, 8), (⟨"LoggedSagaDesk", "readRecord", "(I)V"⟩, 8), (⟨"LoggedSagaDesk", "sendIfWaiting", "(I)Z"⟩, 8), (⟨"LoggedSagaDesk", "isWaiting", "(I)Z"⟩, 8), (⟨"LoggedSagaDesk", "nextRequest", "(I)I"⟩, 8), (⟨"LoggedSagaDesk", "takeRequest", "(I)I"⟩, 8), (⟨"LoggedSagaDesk", "takeReply", "(I)I"⟩, 8), (⟨"LoggedSagaDesk", "readLogAgain", "()V"⟩, 8), (⟨"LoggedSagaDeskModel", "isMessage", "(I)Z"⟩, 21), (⟨"LoggedSagaDeskModel", "remove", "(I)V"⟩, 21), (⟨"LoggedSagaDeskModel", "send", "(IIII)V"⟩, 21), (⟨"LoggedSagaDeskModel", "request", "(III)I"⟩, 21), (⟨"LoggedSagaDeskModel", "nodeOf", "(II)I"⟩, 21), (⟨"LoggedSagaDeskModel", "read", "(I)V"⟩, 21), (⟨"LoggedSagaDeskModel", "reply", "(IIII)I"⟩, 21), (⟨"LoggedSagaDeskModel", "waits", "()Z"⟩, 21)]
theorem lw_r1 : ∀ q ∈ lw_privs_1, lw_okq q := List.forall_mem_cons.mpr ⟨lw_p0, List.forall_mem_cons.mpr ⟨lw_p1, List.forall_mem_cons.mpr ⟨lw_p2, List.forall_mem_cons.mpr ⟨lw_p3, List.forall_mem_cons.mpr ⟨lw_p4, List.forall_mem_cons.mpr ⟨lw_p5, List.forall_mem_cons.mpr ⟨lw_p6, List.forall_mem_cons.mpr ⟨lw_p7, List.forall_mem_cons.mpr ⟨lw_p8, List.forall_mem_cons.mpr ⟨lw_p9, List.forall_mem_cons.mpr ⟨lw_p10, List.forall_mem_cons.mpr ⟨lw_p11, List.forall_mem_cons.mpr ⟨lw_p12, List.forall_mem_cons.mpr ⟨lw_p13, List.forall_mem_cons.mpr ⟨lw_p14, List.forall_mem_cons.mpr ⟨lw_p15, fun _ h => absurd h List.not_mem_nil⟩⟩⟩⟩⟩⟩⟩⟩⟩⟩⟩⟩⟩⟩⟩⟩
theorem lw_p16 : lw_okq (⟨"LoggedSagaDeskModel", "over", "()Z"⟩, 21) := ⟨⟨by decide +kernel, by decide +kernel⟩, List.mem_of_getElem? (i := 430) (by decide +kernel), List.mem_of_getElem? (i := 552) (by decide +kernel), List.mem_of_getElem? (i := 553) (by decide +kernel)⟩
theorem lw_p17 : lw_okq (⟨"LoggedSagaDeskModel", "nextStep", "()I"⟩, 21) := ⟨⟨by decide +kernel, by decide +kernel⟩, List.mem_of_getElem? (i := 430) (by decide +kernel), List.mem_of_getElem? (i := 556) (by decide +kernel), List.mem_of_getElem? (i := 557) (by decide +kernel)⟩
theorem lw_p18 : lw_okq (⟨"LoggedSagaDeskModel", "write", "(III)V"⟩, 21) := ⟨⟨by decide +kernel, by decide +kernel⟩, List.mem_of_getElem? (i := 430) (by decide +kernel), List.mem_of_getElem? (i := 560) (by decide +kernel), List.mem_of_getElem? (i := 561) (by decide +kernel)⟩
theorem lw_p19 : lw_okq (⟨"LoggedSagaDeskModel", "sagas", "()I"⟩, 21) := ⟨⟨by decide +kernel, by decide +kernel⟩, List.mem_of_getElem? (i := 430) (by decide +kernel), List.mem_of_getElem? (i := 568) (by decide +kernel), List.mem_of_getElem? (i := 569) (by decide +kernel)⟩
theorem lw_p20 : lw_okq (⟨"LoggedSagaDeskModel", "sendNext", "(I)V"⟩, 21) := ⟨⟨by decide +kernel, by decide +kernel⟩, List.mem_of_getElem? (i := 430) (by decide +kernel), List.mem_of_getElem? (i := 576) (by decide +kernel), List.mem_of_getElem? (i := 577) (by decide +kernel)⟩
def lw_privs_2 : List (MethodName × Nat) := [(⟨"LoggedSagaDeskModel", "over", "()Z"⟩, 21), (⟨"LoggedSagaDeskModel", "nextStep", "()I"⟩, 21), (⟨"LoggedSagaDeskModel", "write", "(III)V"⟩, 21), (⟨"LoggedSagaDeskModel", "sagas", "()I"⟩, 21), (⟨"LoggedSagaDeskModel", "sendNext", "(I)V"⟩, 21)]
theorem lw_r2 : ∀ q ∈ lw_privs_2, lw_okq q := List.forall_mem_cons.mpr ⟨lw_p16, List.forall_mem_cons.mpr ⟨lw_p17, List.forall_mem_cons.mpr ⟨lw_p18, List.forall_mem_cons.mpr ⟨lw_p19, List.forall_mem_cons.mpr ⟨lw_p20, fun _ h => absurd h List.not_mem_nil⟩⟩⟩⟩⟩
def lw_privs : List (MethodName × Nat) := lw_privs_1 ++ (lw_privs_2)
def lw_tbl : List Cond := k2_sels lw_privs ++ tables_1
theorem lw_privs_ok : ∀ q ∈ lw_privs, lw_okq q := by
  show ∀ q ∈ lw_privs_1 ++ (lw_privs_2), lw_okq q
  exact List.forall_mem_append.mpr ⟨lw_r1, lw_r2⟩
/-! names and fields of the classes -/
def fc_0 : u_T := fun k => match k with
  | 0 => ("LoggedSagaDesk", "kinds", "LLoggedSagaDesk$Kinds;", true)
  | 1 => ("LoggedSagaDesk", "services", "[LLoggedSagaDesk$Service;", true)
  | 2 => ("LoggedSagaDesk", "running", "[Z", true)
  | 3 => ("LoggedSagaDesk", "line", "LLoggedSagaDesk$Line;", true)
  | 4 => ("LoggedSagaDesk", "log", "LLoggedSagaDesk$Log;", true)
  | 5 => ("LoggedSagaDesk", "sagas", "[LLoggedSagaDesk$Saga;", true)
  | 6 => ("LoggedSagaDesk", "sagaCount", "I", false)
  | _ => ("LoggedSagaDesk", "everBegun", "Z", false)
def ty_0 : Nat → FieldType := fun k => match k with
  | 0 => .object "LoggedSagaDesk$Kinds"
  | 1 => .array (.object "LoggedSagaDesk$Service")
  | 2 => .array .boolean
  | 3 => .object "LoggedSagaDesk$Line"
  | 4 => .object "LoggedSagaDesk$Log"
  | 5 => .array (.object "LoggedSagaDesk$Saga")
  | 6 => .int
  | _ => .boolean
theorem fn_0 : ∀ a, a < 8 → ∀ b, b < 8 → a ≠ b → (fc_0 a).2.1 ≠ (fc_0 b).2.1 := by decide +kernel
theorem ft_0 : ∀ k, k < 8 → parseFieldDescriptor (fc_0 k).2.2.1 = some (ty_0 k) := by decide +kernel
def fc_1 : u_T := fun k => match k with
  | 0 => ("LoggedSagaDesk$Kinds", "counts", "[I", true)
  | 1 => ("LoggedSagaDesk$Kinds", "ops", "[I", true)
  | 2 => ("LoggedSagaDesk$Kinds", "things", "[I", true)
  | _ => ("LoggedSagaDesk$Kinds", "sizes", "[I", true)
def ty_1 : Nat → FieldType := fun k => match k with
  | 0 => .array .int
  | 1 => .array .int
  | 2 => .array .int
  | _ => .array .int
theorem fn_1 : ∀ a, a < 4 → ∀ b, b < 4 → a ≠ b → (fc_1 a).2.1 ≠ (fc_1 b).2.1 := by decide +kernel
theorem ft_1 : ∀ k, k < 4 → parseFieldDescriptor (fc_1 k).2.2.1 = some (ty_1 k) := by decide +kernel
def fc_2 : u_T := fun k => match k with
  | 0 => ("LoggedSagaDesk$Service", "stocks", "[I", true)
  | 1 => ("LoggedSagaDesk$Service", "answers", "[I", true)
  | _ => ("LoggedSagaDesk$Service", "answersKept", "I", false)
def ty_2 : Nat → FieldType := fun k => match k with
  | 0 => .array .int
  | 1 => .array .int
  | _ => .int
theorem fn_2 : ∀ a, a < 3 → ∀ b, b < 3 → a ≠ b → (fc_2 a).2.1 ≠ (fc_2 b).2.1 := by decide +kernel
theorem ft_2 : ∀ k, k < 3 → parseFieldDescriptor (fc_2 k).2.2.1 = some (ty_2 k) := by decide +kernel
def fc_3 : u_T := fun k => match k with
  | 0 => ("LoggedSagaDesk$Line", "places", "[I", true)
  | _ => ("LoggedSagaDesk$Line", "taken", "I", false)
def ty_3 : Nat → FieldType := fun k => match k with
  | 0 => .array .int
  | _ => .int
theorem fn_3 : ∀ a, a < 2 → ∀ b, b < 2 → a ≠ b → (fc_3 a).2.1 ≠ (fc_3 b).2.1 := by decide +kernel
theorem ft_3 : ∀ k, k < 2 → parseFieldDescriptor (fc_3 k).2.2.1 = some (ty_3 k) := by decide +kernel
def fc_4 : u_T := fun k => match k with
  | 0 => ("LoggedSagaDesk$Log", "bytes", "[I", true)
  | 1 => ("LoggedSagaDesk$Log", "written", "I", false)
  | _ => ("LoggedSagaDesk$Log", "safe", "I", false)
def ty_4 : Nat → FieldType := fun k => match k with
  | 0 => .array .int
  | 1 => .int
  | _ => .int
theorem fn_4 : ∀ a, a < 3 → ∀ b, b < 3 → a ≠ b → (fc_4 a).2.1 ≠ (fc_4 b).2.1 := by decide +kernel
theorem ft_4 : ∀ k, k < 3 → parseFieldDescriptor (fc_4 k).2.2.1 = some (ty_4 k) := by decide +kernel
def fc_5 : u_T := fun k => match k with
  | 0 => ("LoggedSagaDesk$Saga", "kind", "I", false)
  | 1 => ("LoggedSagaDesk$Saga", "done", "I", false)
  | 2 => ("LoggedSagaDesk$Saga", "undone", "I", false)
  | 3 => ("LoggedSagaDesk$Saga", "refused", "Z", false)
  | _ => ("LoggedSagaDesk$Saga", "last", "I", false)
def ty_5 : Nat → FieldType := fun k => match k with
  | 0 => .int
  | 1 => .int
  | 2 => .int
  | 3 => .boolean
  | _ => .int
theorem fn_5 : ∀ a, a < 5 → ∀ b, b < 5 → a ≠ b → (fc_5 a).2.1 ≠ (fc_5 b).2.1 := by decide +kernel
theorem ft_5 : ∀ k, k < 5 → parseFieldDescriptor (fc_5 k).2.2.1 = some (ty_5 k) := by decide +kernel
def fc_6 : u_T := fun k => match k with
  | 0 => ("LoggedSagaDeskModel", "steps", "[I", true)
  | 1 => ("LoggedSagaDeskModel", "op", "[I", true)
  | 2 => ("LoggedSagaDeskModel", "thing", "[I", true)
  | 3 => ("LoggedSagaDeskModel", "cost", "[I", true)
  | 4 => ("LoggedSagaDeskModel", "locked", "Z", false)
  | 5 => ("LoggedSagaDeskModel", "amounts", "[I", true)
  | 6 => ("LoggedSagaDeskModel", "isUp", "[Z", true)
  | 7 => ("LoggedSagaDeskModel", "log", "[I", true)
  | 8 => ("LoggedSagaDeskModel", "length", "I", false)
  | 9 => ("LoggedSagaDeskModel", "safe", "I", false)
  | 10 => ("LoggedSagaDeskModel", "count", "I", false)
  | 11 => ("LoggedSagaDeskModel", "ofSaga", "[I", true)
  | 12 => ("LoggedSagaDeskModel", "ofStep", "[I", true)
  | 13 => ("LoggedSagaDeskModel", "undoes", "[I", true)
  | 14 => ("LoggedSagaDeskModel", "sort", "[I", true)
  | 15 => ("LoggedSagaDeskModel", "answer", "[I", true)
  | 16 => ("LoggedSagaDeskModel", "kind", "I", false)
  | 17 => ("LoggedSagaDeskModel", "done", "I", false)
  | 18 => ("LoggedSagaDeskModel", "undone", "I", false)
  | 19 => ("LoggedSagaDeskModel", "refused", "Z", false)
  | _ => ("LoggedSagaDeskModel", "end", "I", false)
def ty_6 : Nat → FieldType := fun k => match k with
  | 0 => .array .int
  | 1 => .array .int
  | 2 => .array .int
  | 3 => .array .int
  | 4 => .boolean
  | 5 => .array .int
  | 6 => .array .boolean
  | 7 => .array .int
  | 8 => .int
  | 9 => .int
  | 10 => .int
  | 11 => .array .int
  | 12 => .array .int
  | 13 => .array .int
  | 14 => .array .int
  | 15 => .array .int
  | 16 => .int
  | 17 => .int
  | 18 => .int
  | 19 => .boolean
  | _ => .int
theorem fn_6 : ∀ a, a < 21 → ∀ b, b < 21 → a ≠ b → (fc_6 a).2.1 ≠ (fc_6 b).2.1 := by decide +kernel
theorem ft_6 : ∀ k, k < 21 → parseFieldDescriptor (fc_6 k).2.2.1 = some (ty_6 k) := by decide +kernel
abbrev mm_cl : List vw_C := [("LoggedSagaDesk", fc_0, 8), ("LoggedSagaDesk$Kinds", fc_1, 4), ("LoggedSagaDesk$Service", fc_2, 3), ("LoggedSagaDesk$Line", fc_3, 2), ("LoggedSagaDesk$Log", fc_4, 3), ("LoggedSagaDesk$Saga", fc_5, 5), ("LoggedSagaDeskModel", fc_6, 21)]
def mm_ft : Nat → Nat → FieldType := fun a => match a with
  | 0 => ty_0
  | 1 => ty_1
  | 2 => ty_2
  | 3 => ty_3
  | 4 => ty_4
  | 5 => ty_5
  | _ => ty_6
def mm_gw : Cond → Bool
  | .code .. => true
  | .methodLink .. => true
  | .instanceMethod .. => true
  | .selects .. => true
  | .fieldLink .. => true
  | .lays .. => true
  | .laysFinal .. => true
  | .initialized .. => true
  | .classLink .. => true
  | .instantiable .. => true
  | .static .. => true
  | .native .. => true
  | .arrayClass .. => true
  | _ => false
def mm_WS : List Cond := lw_tbl.filter mm_gw
theorem mm_WS_lw : ∀ w ∈ mm_WS, w ∈ lw_tbl := fun w h => (List.mem_filter.mp h).1
set_option maxRecDepth 100000 in
theorem mm_WS_g : mm_WS.all (fun w => k2_isCode w || goodWord w) = true := by decide +kernel
theorem mm_WS_good : GoodIn mm_WS mm_WS := by
  intro w hw
  refine ⟨hw, ?_⟩
  have h1 := List.all_eq_true.mp mm_WS_g w hw
  rcases Bool.or_eq_true_iff.mp h1 with h | h
  · cases w <;> first | (simp [k2_isCode] at h; done) | exact Or.inl rfl
  · exact good_of_word h
set_option maxRecDepth 100000 in
theorem fw_0 : u_ws "LoggedSagaDesk" fc_0 8 = ([108, 109, 110, 111, 112, 113, 114, 115].filterMap (fun i => mm_WS[i]?)) := by decide +kernel
theorem fi_0 : ∀ w ∈ u_ws "LoggedSagaDesk" fc_0 8, w ∈ mm_WS := by
  intro w hw
  rw [fw_0] at hw
  obtain ⟨i, -, hi⟩ := List.mem_filterMap.mp hw
  exact List.mem_of_getElem? hi
set_option maxRecDepth 100000 in
theorem fw_1 : u_ws "LoggedSagaDesk$Kinds" fc_1 4 = ([48, 49, 50, 51].filterMap (fun i => mm_WS[i]?)) := by decide +kernel
theorem fi_1 : ∀ w ∈ u_ws "LoggedSagaDesk$Kinds" fc_1 4, w ∈ mm_WS := by
  intro w hw
  rw [fw_1] at hw
  obtain ⟨i, -, hi⟩ := List.mem_filterMap.mp hw
  exact List.mem_of_getElem? hi
set_option maxRecDepth 100000 in
theorem fw_2 : u_ws "LoggedSagaDesk$Service" fc_2 3 = ([61, 62, 63].filterMap (fun i => mm_WS[i]?)) := by decide +kernel
theorem fi_2 : ∀ w ∈ u_ws "LoggedSagaDesk$Service" fc_2 3, w ∈ mm_WS := by
  intro w hw
  rw [fw_2] at hw
  obtain ⟨i, -, hi⟩ := List.mem_filterMap.mp hw
  exact List.mem_of_getElem? hi
set_option maxRecDepth 100000 in
theorem fw_3 : u_ws "LoggedSagaDesk$Line" fc_3 2 = ([71, 72].filterMap (fun i => mm_WS[i]?)) := by decide +kernel
theorem fi_3 : ∀ w ∈ u_ws "LoggedSagaDesk$Line" fc_3 2, w ∈ mm_WS := by
  intro w hw
  rw [fw_3] at hw
  obtain ⟨i, -, hi⟩ := List.mem_filterMap.mp hw
  exact List.mem_of_getElem? hi
set_option maxRecDepth 100000 in
theorem fw_4 : u_ws "LoggedSagaDesk$Log" fc_4 3 = ([82, 83, 84].filterMap (fun i => mm_WS[i]?)) := by decide +kernel
theorem fi_4 : ∀ w ∈ u_ws "LoggedSagaDesk$Log" fc_4 3, w ∈ mm_WS := by
  intro w hw
  rw [fw_4] at hw
  obtain ⟨i, -, hi⟩ := List.mem_filterMap.mp hw
  exact List.mem_of_getElem? hi
set_option maxRecDepth 100000 in
theorem fw_5 : u_ws "LoggedSagaDesk$Saga" fc_5 5 = ([95, 96, 97, 98, 99].filterMap (fun i => mm_WS[i]?)) := by decide +kernel
theorem fi_5 : ∀ w ∈ u_ws "LoggedSagaDesk$Saga" fc_5 5, w ∈ mm_WS := by
  intro w hw
  rw [fw_5] at hw
  obtain ⟨i, -, hi⟩ := List.mem_filterMap.mp hw
  exact List.mem_of_getElem? hi
set_option maxRecDepth 100000 in
theorem fw_6 : u_ws "LoggedSagaDeskModel" fc_6 21 = ([431, 432, 433, 434, 435, 436, 437, 438, 439, 440, 441, 442, 443, 444, 445, 446, 447, 448, 449, 450, 451].filterMap (fun i => mm_WS[i]?)) := by decide +kernel
theorem fi_6 : ∀ w ∈ u_ws "LoggedSagaDeskModel" fc_6 21, w ∈ mm_WS := by
  intro w hw
  rw [fw_6] at hw
  obtain ⟨i, -, hi⟩ := List.mem_filterMap.mp hw
  exact List.mem_of_getElem? hi
def mm_NWs : List (String × Nat × MethodName × String) := [("LoggedSagaDesk", 9, ⟨"LoggedSagaDesk$Kinds", "<init>", "()V"⟩, "LoggedSagaDesk"), ("LoggedSagaDesk", 22, ⟨"LoggedSagaDesk$Service", "<init>", "()V"⟩, "LoggedSagaDesk"), ("LoggedSagaDesk", 29, ⟨"LoggedSagaDesk$Line", "<init>", "()V"⟩, "LoggedSagaDesk"), ("LoggedSagaDesk", 36, ⟨"LoggedSagaDesk$Log", "<init>", "()V"⟩, "LoggedSagaDesk"), ("LoggedSagaDesk", 47, ⟨"LoggedSagaDesk$Saga", "<init>", "()V"⟩, "LoggedSagaDesk")]
