/-! all of it together; the law out of a run of the small machine -/
set_option maxRecDepth 100000 in
theorem mm_codes : ∀ y, y < 112 → Cond.code (mm_pr y).1 (mm_pr y).2.1 (mm_pr y).2.2.1 (mm_pr y).2.2.2.1 ∈ mm_WS
  | 0, _ => List.mem_of_getElem? (i := 35) rfl
  | 1, _ => List.mem_of_getElem? (i := 42) rfl
  | 2, _ => List.mem_of_getElem? (i := 56) rfl
  | 3, _ => List.mem_of_getElem? (i := 67) rfl
  | 4, _ => List.mem_of_getElem? (i := 77) rfl
  | 5, _ => List.mem_of_getElem? (i := 88) rfl
  | 6, _ => List.mem_of_getElem? (i := 119) rfl
  | 7, _ => List.mem_of_getElem? (i := 122) rfl
  | 8, _ => List.mem_of_getElem? (i := 126) rfl
  | 9, _ => List.mem_of_getElem? (i := 130) rfl
  | 10, _ => List.mem_of_getElem? (i := 134) rfl
  | 11, _ => List.mem_of_getElem? (i := 138) rfl
  | 12, _ => List.mem_of_getElem? (i := 142) rfl
  | 13, _ => List.mem_of_getElem? (i := 146) rfl
  | 14, _ => List.mem_of_getElem? (i := 149) rfl
  | 15, _ => List.mem_of_getElem? (i := 153) rfl
  | 16, _ => List.mem_of_getElem? (i := 157) rfl
  | 17, _ => List.mem_of_getElem? (i := 160) rfl
  | 18, _ => List.mem_of_getElem? (i := 164) rfl
  | 19, _ => List.mem_of_getElem? (i := 168) rfl
  | 20, _ => List.mem_of_getElem? (i := 172) rfl
  | 21, _ => List.mem_of_getElem? (i := 176) rfl
  | 22, _ => List.mem_of_getElem? (i := 180) rfl
  | 23, _ => List.mem_of_getElem? (i := 184) rfl
  | 24, _ => List.mem_of_getElem? (i := 188) rfl
  | 25, _ => List.mem_of_getElem? (i := 198) rfl
  | 26, _ => List.mem_of_getElem? (i := 201) rfl
  | 27, _ => List.mem_of_getElem? (i := 204) rfl
  | 28, _ => List.mem_of_getElem? (i := 208) rfl
  | 29, _ => List.mem_of_getElem? (i := 213) rfl
  | 30, _ => List.mem_of_getElem? (i := 217) rfl
  | 31, _ => List.mem_of_getElem? (i := 220) rfl
  | 32, _ => List.mem_of_getElem? (i := 224) rfl
  | 33, _ => List.mem_of_getElem? (i := 228) rfl
  | 34, _ => List.mem_of_getElem? (i := 233) rfl
  | 35, _ => List.mem_of_getElem? (i := 237) rfl
  | 36, _ => List.mem_of_getElem? (i := 241) rfl
  | 37, _ => List.mem_of_getElem? (i := 245) rfl
  | 38, _ => List.mem_of_getElem? (i := 249) rfl
  | 39, _ => List.mem_of_getElem? (i := 253) rfl
  | 40, _ => List.mem_of_getElem? (i := 259) rfl
  | 41, _ => List.mem_of_getElem? (i := 262) rfl
  | 42, _ => List.mem_of_getElem? (i := 265) rfl
  | 43, _ => List.mem_of_getElem? (i := 268) rfl
  | 44, _ => List.mem_of_getElem? (i := 271) rfl
  | 45, _ => List.mem_of_getElem? (i := 274) rfl
  | 46, _ => List.mem_of_getElem? (i := 277) rfl
  | 47, _ => List.mem_of_getElem? (i := 281) rfl
  | 48, _ => List.mem_of_getElem? (i := 284) rfl
  | 49, _ => List.mem_of_getElem? (i := 288) rfl
  | 50, _ => List.mem_of_getElem? (i := 292) rfl
  | 51, _ => List.mem_of_getElem? (i := 296) rfl
  | 52, _ => List.mem_of_getElem? (i := 300) rfl
  | 53, _ => List.mem_of_getElem? (i := 304) rfl
  | 54, _ => List.mem_of_getElem? (i := 307) rfl
  | 55, _ => List.mem_of_getElem? (i := 310) rfl
  | 56, _ => List.mem_of_getElem? (i := 313) rfl
  | 57, _ => List.mem_of_getElem? (i := 317) rfl
  | 58, _ => List.mem_of_getElem? (i := 321) rfl
  | 59, _ => List.mem_of_getElem? (i := 325) rfl
  | 60, _ => List.mem_of_getElem? (i := 329) rfl
  | 61, _ => List.mem_of_getElem? (i := 333) rfl
  | 62, _ => List.mem_of_getElem? (i := 337) rfl
  | 63, _ => List.mem_of_getElem? (i := 340) rfl
  | 64, _ => List.mem_of_getElem? (i := 344) rfl
  | 65, _ => List.mem_of_getElem? (i := 348) rfl
  | 66, _ => List.mem_of_getElem? (i := 354) rfl
  | 67, _ => List.mem_of_getElem? (i := 358) rfl
  | 68, _ => List.mem_of_getElem? (i := 362) rfl
  | 69, _ => List.mem_of_getElem? (i := 366) rfl
  | 70, _ => List.mem_of_getElem? (i := 371) rfl
  | 71, _ => List.mem_of_getElem? (i := 375) rfl
  | 72, _ => List.mem_of_getElem? (i := 379) rfl
  | 73, _ => List.mem_of_getElem? (i := 383) rfl
  | 74, _ => List.mem_of_getElem? (i := 387) rfl
  | 75, _ => List.mem_of_getElem? (i := 391) rfl
  | 76, _ => List.mem_of_getElem? (i := 395) rfl
  | 77, _ => List.mem_of_getElem? (i := 399) rfl
  | 78, _ => List.mem_of_getElem? (i := 403) rfl
  | 79, _ => List.mem_of_getElem? (i := 408) rfl
  | 80, _ => List.mem_of_getElem? (i := 455) rfl
  | 81, _ => List.mem_of_getElem? (i := 459) rfl
  | 82, _ => List.mem_of_getElem? (i := 463) rfl
  | 83, _ => List.mem_of_getElem? (i := 466) rfl
  | 84, _ => List.mem_of_getElem? (i := 469) rfl
  | 85, _ => List.mem_of_getElem? (i := 473) rfl
  | 86, _ => List.mem_of_getElem? (i := 476) rfl
  | 87, _ => List.mem_of_getElem? (i := 480) rfl
  | 88, _ => List.mem_of_getElem? (i := 483) rfl
  | 89, _ => List.mem_of_getElem? (i := 486) rfl
  | 90, _ => List.mem_of_getElem? (i := 489) rfl
  | 91, _ => List.mem_of_getElem? (i := 492) rfl
  | 92, _ => List.mem_of_getElem? (i := 495) rfl
  | 93, _ => List.mem_of_getElem? (i := 498) rfl
  | 94, _ => List.mem_of_getElem? (i := 501) rfl
  | 95, _ => List.mem_of_getElem? (i := 504) rfl
  | 96, _ => List.mem_of_getElem? (i := 508) rfl
  | 97, _ => List.mem_of_getElem? (i := 511) rfl
  | 98, _ => List.mem_of_getElem? (i := 515) rfl
  | 99, _ => List.mem_of_getElem? (i := 518) rfl
  | 100, _ => List.mem_of_getElem? (i := 522) rfl
  | 101, _ => List.mem_of_getElem? (i := 526) rfl
  | 102, _ => List.mem_of_getElem? (i := 530) rfl
  | 103, _ => List.mem_of_getElem? (i := 534) rfl
  | 104, _ => List.mem_of_getElem? (i := 538) rfl
  | 105, _ => List.mem_of_getElem? (i := 542) rfl
  | 106, _ => List.mem_of_getElem? (i := 546) rfl
  | 107, _ => List.mem_of_getElem? (i := 550) rfl
  | 108, _ => List.mem_of_getElem? (i := 554) rfl
  | 109, _ => List.mem_of_getElem? (i := 558) rfl
  | 110, _ => List.mem_of_getElem? (i := 562) rfl
  | 111, _ => List.mem_of_getElem? (i := 566) rfl
  | n + 112, h => absurd h (by omega)
theorem mm_prs : ∀ y, y < 112 → mm_okM mm_pr 112 mm_bd mm_WS mm_cl mm_ft mm_NWs (mm_pr y) = true
  | 0, _ => ok_D_init
  | 1, _ => ok_K_init
  | 2, _ => ok_V_init
  | 3, _ => ok_L_init
  | 4, _ => ok_G_init
  | 5, _ => ok_S_init
  | 6, _ => ok_D_addStep
  | 7, _ => ok_D_isBelow
  | 8, _ => ok_K_stepCount
  | 9, _ => ok_K_append
  | 10, _ => ok_K_slot
  | 11, _ => ok_D_supply
  | 12, _ => ok_V_stock
  | 13, _ => ok_D_begin
  | 14, _ => ok_D_writeRecord
  | 15, _ => ok_G_append
  | 16, _ => ok_G_wholeRecords
  | 17, _ => ok_D_readRecord
  | 18, _ => ok_G_typeOfRecord
  | 19, _ => ok_G_sagaOfRecord
  | 20, _ => ok_G_valueOfRecord
  | 21, _ => ok_S_read
  | 22, _ => ok_D_flush
  | 23, _ => ok_G_size
  | 24, _ => ok_G_safeSize
  | 25, _ => ok_G_secureByte
  | 26, _ => ok_D_sendIfWaiting
  | 27, _ => ok_D_isWaiting
  | 28, _ => ok_S_isOver
  | 29, _ => ok_S_lastRecord
  | 30, _ => ok_G_isSafe
  | 31, _ => ok_D_nextRequest
  | 32, _ => ok_S_nextStep
  | 33, _ => ok_S_kindNumber
  | 34, _ => ok_K_nodeAt
  | 35, _ => ok_S_goesBack
  | 36, _ => ok_L_put
  | 37, _ => ok_D_deliver
  | 38, _ => ok_L_size
  | 39, _ => ok_L_take
  | 40, _ => ok_D_answerIn
  | 41, _ => ok_D_takeRequest
  | 42, _ => ok_D_nodeOf
  | 43, _ => ok_D_nameOf
  | 44, _ => ok_D_sagaOf
  | 45, _ => ok_D_stepOf
  | 46, _ => ok_D_isToUndo
  | 47, _ => ok_V_answerTo
  | 48, _ => ok_D_replyTo
  | 49, _ => ok_V_attempt
  | 50, _ => ok_K_thingAt
  | 51, _ => ok_K_changeBy
  | 52, _ => ok_K_isAllowed
  | 53, _ => ok_V_keepAnswer
  | 54, _ => ok_D_takeReply
  | 55, _ => ok_D_requestOf
  | 56, _ => ok_D_recordFor
  | 57, _ => ok_D_lose
  | 58, _ => ok_D_repeat
  | 59, _ => ok_L_at
  | 60, _ => ok_D_resend
  | 61, _ => ok_D_crash
  | 62, _ => ok_G_dropUnsafe
  | 63, _ => ok_D_readLogAgain
  | 64, _ => ok_D_restart
  | 65, _ => ok_G_dropTornRecord
  | 66, _ => ok_D_amount
  | 67, _ => ok_V_stockOf
  | 68, _ => ok_D_status
  | 69, _ => ok_S_standing
  | 70, _ => ok_D_messages
  | 71, _ => ok_D_message
  | 72, _ => ok_D_logged
  | 73, _ => ok_D_durable
  | 74, _ => ok_D_logByte
  | 75, _ => ok_G_byteAt
  | 76, _ => ok_D_answered
  | 77, _ => ok_V_answerCount
  | 78, _ => ok_D_up
  | 79, _ => ok_M_init
  | 80, _ => ok_M_addStep
  | 81, _ => ok_M_supply
  | 82, _ => ok_M_lose
  | 83, _ => ok_M_isMessage
  | 84, _ => ok_M_remove
  | 85, _ => ok_M_repeat
  | 86, _ => ok_M_send
  | 87, _ => ok_M_deliver
  | 88, _ => ok_M_request
  | 89, _ => ok_M_nodeOf
  | 90, _ => ok_M_read
  | 91, _ => ok_M_reply
  | 92, _ => ok_M_waits
  | 93, _ => ok_M_over
  | 94, _ => ok_M_nextStep
  | 95, _ => ok_M_write
  | 96, _ => ok_M_begin
  | 97, _ => ok_M_sagas
  | 98, _ => ok_M_flush
  | 99, _ => ok_M_sendNext
  | 100, _ => ok_M_resend
  | 101, _ => ok_M_crash
  | 102, _ => ok_M_restart
  | 103, _ => ok_M_amount
  | 104, _ => ok_M_status
  | 105, _ => ok_M_messages
  | 106, _ => ok_M_message
  | 107, _ => ok_M_logged
  | 108, _ => ok_M_durable
  | 109, _ => ok_M_logByte
  | 110, _ => ok_M_answered
  | 111, _ => ok_M_up
  | n + 112, h => absurd h (by omega)
theorem fp_0 : ∀ j, j < 8 → ((mm_pf 0)[j]? = some none ∧ (mm_ft 0 j = .int ∨ mm_ft 0 j = .boolean)) ∨ ((mm_pf 0)[j]? = some (some none) ∧ ((∃ C, mm_ft 0 j = .object C) ∨ ∃ C, mm_ft 0 j = .array C))
  | 0, _ => Or.inr ⟨rfl, Or.inl ⟨_, rfl⟩⟩
  | 1, _ => Or.inr ⟨rfl, Or.inr ⟨_, rfl⟩⟩
  | 2, _ => Or.inr ⟨rfl, Or.inr ⟨_, rfl⟩⟩
  | 3, _ => Or.inr ⟨rfl, Or.inl ⟨_, rfl⟩⟩
  | 4, _ => Or.inr ⟨rfl, Or.inl ⟨_, rfl⟩⟩
  | 5, _ => Or.inr ⟨rfl, Or.inr ⟨_, rfl⟩⟩
  | 6, _ => Or.inl ⟨rfl, Or.inl rfl⟩
  | 7, _ => Or.inl ⟨rfl, Or.inr rfl⟩
  | m + 8, h => absurd h (by omega)
theorem fp_1 : ∀ j, j < 4 → ((mm_pf 1)[j]? = some none ∧ (mm_ft 1 j = .int ∨ mm_ft 1 j = .boolean)) ∨ ((mm_pf 1)[j]? = some (some none) ∧ ((∃ C, mm_ft 1 j = .object C) ∨ ∃ C, mm_ft 1 j = .array C))
  | 0, _ => Or.inr ⟨rfl, Or.inr ⟨_, rfl⟩⟩
  | 1, _ => Or.inr ⟨rfl, Or.inr ⟨_, rfl⟩⟩
  | 2, _ => Or.inr ⟨rfl, Or.inr ⟨_, rfl⟩⟩
  | 3, _ => Or.inr ⟨rfl, Or.inr ⟨_, rfl⟩⟩
  | m + 4, h => absurd h (by omega)
theorem fp_2 : ∀ j, j < 3 → ((mm_pf 2)[j]? = some none ∧ (mm_ft 2 j = .int ∨ mm_ft 2 j = .boolean)) ∨ ((mm_pf 2)[j]? = some (some none) ∧ ((∃ C, mm_ft 2 j = .object C) ∨ ∃ C, mm_ft 2 j = .array C))
  | 0, _ => Or.inr ⟨rfl, Or.inr ⟨_, rfl⟩⟩
  | 1, _ => Or.inr ⟨rfl, Or.inr ⟨_, rfl⟩⟩
  | 2, _ => Or.inl ⟨rfl, Or.inl rfl⟩
  | m + 3, h => absurd h (by omega)
theorem fp_3 : ∀ j, j < 2 → ((mm_pf 3)[j]? = some none ∧ (mm_ft 3 j = .int ∨ mm_ft 3 j = .boolean)) ∨ ((mm_pf 3)[j]? = some (some none) ∧ ((∃ C, mm_ft 3 j = .object C) ∨ ∃ C, mm_ft 3 j = .array C))
  | 0, _ => Or.inr ⟨rfl, Or.inr ⟨_, rfl⟩⟩
  | 1, _ => Or.inl ⟨rfl, Or.inl rfl⟩
  | m + 2, h => absurd h (by omega)
theorem fp_4 : ∀ j, j < 3 → ((mm_pf 4)[j]? = some none ∧ (mm_ft 4 j = .int ∨ mm_ft 4 j = .boolean)) ∨ ((mm_pf 4)[j]? = some (some none) ∧ ((∃ C, mm_ft 4 j = .object C) ∨ ∃ C, mm_ft 4 j = .array C))
  | 0, _ => Or.inr ⟨rfl, Or.inr ⟨_, rfl⟩⟩
  | 1, _ => Or.inl ⟨rfl, Or.inl rfl⟩
  | 2, _ => Or.inl ⟨rfl, Or.inl rfl⟩
  | m + 3, h => absurd h (by omega)
theorem fp_5 : ∀ j, j < 5 → ((mm_pf 5)[j]? = some none ∧ (mm_ft 5 j = .int ∨ mm_ft 5 j = .boolean)) ∨ ((mm_pf 5)[j]? = some (some none) ∧ ((∃ C, mm_ft 5 j = .object C) ∨ ∃ C, mm_ft 5 j = .array C))
  | 0, _ => Or.inl ⟨rfl, Or.inl rfl⟩
  | 1, _ => Or.inl ⟨rfl, Or.inl rfl⟩
  | 2, _ => Or.inl ⟨rfl, Or.inl rfl⟩
  | 3, _ => Or.inl ⟨rfl, Or.inr rfl⟩
  | 4, _ => Or.inl ⟨rfl, Or.inl rfl⟩
  | m + 5, h => absurd h (by omega)
theorem fp_6 : ∀ j, j < 21 → ((mm_pf 6)[j]? = some none ∧ (mm_ft 6 j = .int ∨ mm_ft 6 j = .boolean)) ∨ ((mm_pf 6)[j]? = some (some none) ∧ ((∃ C, mm_ft 6 j = .object C) ∨ ∃ C, mm_ft 6 j = .array C))
  | 0, _ => Or.inr ⟨rfl, Or.inr ⟨_, rfl⟩⟩
  | 1, _ => Or.inr ⟨rfl, Or.inr ⟨_, rfl⟩⟩
  | 2, _ => Or.inr ⟨rfl, Or.inr ⟨_, rfl⟩⟩
  | 3, _ => Or.inr ⟨rfl, Or.inr ⟨_, rfl⟩⟩
  | 4, _ => Or.inl ⟨rfl, Or.inr rfl⟩
  | 5, _ => Or.inr ⟨rfl, Or.inr ⟨_, rfl⟩⟩
  | 6, _ => Or.inr ⟨rfl, Or.inr ⟨_, rfl⟩⟩
  | 7, _ => Or.inr ⟨rfl, Or.inr ⟨_, rfl⟩⟩
  | 8, _ => Or.inl ⟨rfl, Or.inl rfl⟩
  | 9, _ => Or.inl ⟨rfl, Or.inl rfl⟩
  | 10, _ => Or.inl ⟨rfl, Or.inl rfl⟩
  | 11, _ => Or.inr ⟨rfl, Or.inr ⟨_, rfl⟩⟩
  | 12, _ => Or.inr ⟨rfl, Or.inr ⟨_, rfl⟩⟩
  | 13, _ => Or.inr ⟨rfl, Or.inr ⟨_, rfl⟩⟩
  | 14, _ => Or.inr ⟨rfl, Or.inr ⟨_, rfl⟩⟩
  | 15, _ => Or.inr ⟨rfl, Or.inr ⟨_, rfl⟩⟩
  | 16, _ => Or.inl ⟨rfl, Or.inl rfl⟩
  | 17, _ => Or.inl ⟨rfl, Or.inl rfl⟩
  | 18, _ => Or.inl ⟨rfl, Or.inl rfl⟩
  | 19, _ => Or.inl ⟨rfl, Or.inr rfl⟩
  | 20, _ => Or.inl ⟨rfl, Or.inl rfl⟩
  | m + 21, h => absurd h (by omega)
theorem mm_clC : ∀ (a : Nat) (r : vw_C), mm_cl[a]? = some r → (∀ w ∈ u_ws r.1 r.2.1 r.2.2, w ∈ mm_WS) ∧ (∀ k, k < r.2.2 → parseFieldDescriptor (r.2.1 k).2.2.1 = some (mm_ft a k)) ∧ (∀ i, i < r.2.2 → ∀ j, j < r.2.2 → i ≠ j → (r.2.1 i).2.1 ≠ (r.2.1 j).2.1) ∧
    (mm_pf a).length = r.2.2 ∧ ∀ j, j < r.2.2 → ((mm_pf a)[j]? = some none ∧ (mm_ft a j = .int ∨ mm_ft a j = .boolean)) ∨ ((mm_pf a)[j]? = some (some none) ∧ ((∃ C, mm_ft a j = .object C) ∨ ∃ C, mm_ft a j = .array C))
  | 0, _, h => by
    cases h
    exact ⟨fi_0, ft_0, fn_0, rfl, fp_0⟩
  | 1, _, h => by
    cases h
    exact ⟨fi_1, ft_1, fn_1, rfl, fp_1⟩
  | 2, _, h => by
    cases h
    exact ⟨fi_2, ft_2, fn_2, rfl, fp_2⟩
  | 3, _, h => by
    cases h
    exact ⟨fi_3, ft_3, fn_3, rfl, fp_3⟩
  | 4, _, h => by
    cases h
    exact ⟨fi_4, ft_4, fn_4, rfl, fp_4⟩
  | 5, _, h => by
    cases h
    exact ⟨fi_5, ft_5, fn_5, rfl, fp_5⟩
  | 6, _, h => by
    cases h
    exact ⟨fi_6, ft_6, fn_6, rfl, fp_6⟩
  | n + 7, _, h => by
    have := (List.getElem?_eq_some_iff.mp h).1
    have : n + 7 < 7 := this
    omega
theorem mm_okC0 : mm_okC mm_pf mm_WS mm_cl mm_ft := ⟨⟨_, rfl⟩, ⟨_, rfl⟩, mm_clC⟩
theorem mm_fw1 : mm_ir (1 : Int) := by unfold mm_ir mm_wr; decide +kernel
set_option maxRecDepth 100000 in
theorem mm_nwin : ∀ w ∈ mm_NWs, Cond.methodLinkNest w.1 w.2.1 w.2.2.1 w.2.2.2 ∈ lw_tbl := by
  intro w hw
  simp only [mm_NWs, List.mem_cons, List.not_mem_nil, or_false] at hw
  rcases hw with rfl | rfl | rfl | rfl | rfl
  · exact List.mem_of_getElem? (i := 41) (by decide +kernel)
  · exact List.mem_of_getElem? (i := 62) (by decide +kernel)
  · exact List.mem_of_getElem? (i := 78) (by decide +kernel)
  · exact List.mem_of_getElem? (i := 92) (by decide +kernel)
  · exact List.mem_of_getElem? (i := 109) (by decide +kernel)
set_option maxRecDepth 100000 in
theorem mm_ao2 : Cond.arrayOver (.object "LoggedSagaDesk$Service") ∈ lw_tbl := List.mem_of_getElem? (i := 60) (by decide +kernel)
set_option maxRecDepth 100000 in
theorem mm_ao5 : Cond.arrayOver (.object "LoggedSagaDesk$Saga") ∈ lw_tbl := List.mem_of_getElem? (i := 107) (by decide +kernel)
set_option maxRecDepth 100000 in
theorem mm_acI : Cond.arrayClass .int ∈ lw_tbl := List.mem_of_getElem? (i := 58) (by decide +kernel)
set_option maxRecDepth 100000 in
theorem mm_acZ : Cond.arrayClass .boolean ∈ lw_tbl := List.mem_of_getElem? (i := 89) (by decide +kernel)
set_option maxRecDepth 100000 in
theorem mm_in0 : Cond.instantiable "LoggedSagaDesk" 8 ∈ lw_tbl := List.mem_of_getElem? (i := 32) (by decide +kernel)
set_option maxRecDepth 100000 in
theorem mm_in1 : Cond.instantiable "LoggedSagaDesk$Kinds" 4 ∈ lw_tbl := List.mem_of_getElem? (i := 40) (by decide +kernel)
set_option maxRecDepth 100000 in
theorem mm_in2 : Cond.instantiable "LoggedSagaDesk$Service" 3 ∈ lw_tbl := List.mem_of_getElem? (i := 61) (by decide +kernel)
set_option maxRecDepth 100000 in
theorem mm_in3 : Cond.instantiable "LoggedSagaDesk$Line" 2 ∈ lw_tbl := List.mem_of_getElem? (i := 77) (by decide +kernel)
set_option maxRecDepth 100000 in
theorem mm_in4 : Cond.instantiable "LoggedSagaDesk$Log" 3 ∈ lw_tbl := List.mem_of_getElem? (i := 91) (by decide +kernel)
set_option maxRecDepth 100000 in
theorem mm_in5 : Cond.instantiable "LoggedSagaDesk$Saga" 5 ∈ lw_tbl := List.mem_of_getElem? (i := 108) (by decide +kernel)
set_option maxRecDepth 100000 in
theorem mm_in6 : Cond.instantiable "LoggedSagaDeskModel" 21 ∈ lw_tbl := List.mem_of_getElem? (i := 451) (by decide +kernel)
def lw_law (L : Nat) (xs : Nat → Int) : Prop := mm_Wp mm_pf mm_bd L xs (mm_Cl mm_pf mm_bd L xs mm_pr 6) m_W_law (fun r _ _ => r = some (.inl 1)) (0, [(0, .inr (some 1000))], [], [], fun _ _ => 0, 0, 0)
