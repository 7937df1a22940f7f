/-! the listings are those of the compiled files -/
set_option maxRecDepth 100000 in
theorem ok_D_init : mm_okM mm_pr 112 mm_bd mm_WS mm_cl mm_ft mm_NWs m_D_init = true := by decide +kernel
set_option maxRecDepth 100000 in
theorem ok_K_init : mm_okM mm_pr 112 mm_bd mm_WS mm_cl mm_ft mm_NWs m_K_init = true := by decide +kernel
set_option maxRecDepth 100000 in
theorem ok_V_init : mm_okM mm_pr 112 mm_bd mm_WS mm_cl mm_ft mm_NWs m_V_init = true := by decide +kernel
set_option maxRecDepth 100000 in
theorem ok_L_init : mm_okM mm_pr 112 mm_bd mm_WS mm_cl mm_ft mm_NWs m_L_init = true := by decide +kernel
set_option maxRecDepth 100000 in
theorem ok_G_init : mm_okM mm_pr 112 mm_bd mm_WS mm_cl mm_ft mm_NWs m_G_init = true := by decide +kernel
set_option maxRecDepth 100000 in
theorem ok_S_init : mm_okM mm_pr 112 mm_bd mm_WS mm_cl mm_ft mm_NWs m_S_init = true := by decide +kernel
set_option maxRecDepth 100000 in
theorem ok_D_addStep : mm_okM mm_pr 112 mm_bd mm_WS mm_cl mm_ft mm_NWs m_D_addStep = true := by decide +kernel
set_option maxRecDepth 100000 in
theorem ok_D_isBelow : mm_okM mm_pr 112 mm_bd mm_WS mm_cl mm_ft mm_NWs m_D_isBelow = true := by decide +kernel
set_option maxRecDepth 100000 in
theorem ok_K_stepCount : mm_okM mm_pr 112 mm_bd mm_WS mm_cl mm_ft mm_NWs m_K_stepCount = true := by decide +kernel
set_option maxRecDepth 100000 in
theorem ok_K_append : mm_okM mm_pr 112 mm_bd mm_WS mm_cl mm_ft mm_NWs m_K_append = true := by decide +kernel
set_option maxRecDepth 100000 in
theorem ok_K_slot : mm_okM mm_pr 112 mm_bd mm_WS mm_cl mm_ft mm_NWs m_K_slot = true := by decide +kernel
set_option maxRecDepth 100000 in
theorem ok_D_supply : mm_okM mm_pr 112 mm_bd mm_WS mm_cl mm_ft mm_NWs m_D_supply = true := by decide +kernel
set_option maxRecDepth 100000 in
theorem ok_V_stock : mm_okM mm_pr 112 mm_bd mm_WS mm_cl mm_ft mm_NWs m_V_stock = true := by decide +kernel
set_option maxRecDepth 100000 in
theorem ok_D_begin : mm_okM mm_pr 112 mm_bd mm_WS mm_cl mm_ft mm_NWs m_D_begin = true := by decide +kernel
set_option maxRecDepth 100000 in
theorem ok_D_writeRecord : mm_okM mm_pr 112 mm_bd mm_WS mm_cl mm_ft mm_NWs m_D_writeRecord = true := by decide +kernel
set_option maxRecDepth 100000 in
theorem ok_G_append : mm_okM mm_pr 112 mm_bd mm_WS mm_cl mm_ft mm_NWs m_G_append = true := by decide +kernel
set_option maxRecDepth 100000 in
theorem ok_G_wholeRecords : mm_okM mm_pr 112 mm_bd mm_WS mm_cl mm_ft mm_NWs m_G_wholeRecords = true := by decide +kernel
set_option maxRecDepth 100000 in
theorem ok_D_readRecord : mm_okM mm_pr 112 mm_bd mm_WS mm_cl mm_ft mm_NWs m_D_readRecord = true := by decide +kernel
set_option maxRecDepth 100000 in
theorem ok_G_typeOfRecord : mm_okM mm_pr 112 mm_bd mm_WS mm_cl mm_ft mm_NWs m_G_typeOfRecord = true := by decide +kernel
set_option maxRecDepth 100000 in
theorem ok_G_sagaOfRecord : mm_okM mm_pr 112 mm_bd mm_WS mm_cl mm_ft mm_NWs m_G_sagaOfRecord = true := by decide +kernel
set_option maxRecDepth 100000 in
theorem ok_G_valueOfRecord : mm_okM mm_pr 112 mm_bd mm_WS mm_cl mm_ft mm_NWs m_G_valueOfRecord = true := by decide +kernel
set_option maxRecDepth 100000 in
theorem ok_S_read : mm_okM mm_pr 112 mm_bd mm_WS mm_cl mm_ft mm_NWs m_S_read = true := by decide +kernel
set_option maxRecDepth 100000 in
theorem ok_D_flush : mm_okM mm_pr 112 mm_bd mm_WS mm_cl mm_ft mm_NWs m_D_flush = true := by decide +kernel
set_option maxRecDepth 100000 in
theorem ok_G_size : mm_okM mm_pr 112 mm_bd mm_WS mm_cl mm_ft mm_NWs m_G_size = true := by decide +kernel
set_option maxRecDepth 100000 in
theorem ok_G_safeSize : mm_okM mm_pr 112 mm_bd mm_WS mm_cl mm_ft mm_NWs m_G_safeSize = true := by decide +kernel
set_option maxRecDepth 100000 in
theorem ok_G_secureByte : mm_okM mm_pr 112 mm_bd mm_WS mm_cl mm_ft mm_NWs m_G_secureByte = true := by decide +kernel
set_option maxRecDepth 100000 in
theorem ok_D_sendIfWaiting : mm_okM mm_pr 112 mm_bd mm_WS mm_cl mm_ft mm_NWs m_D_sendIfWaiting = true := by decide +kernel
set_option maxRecDepth 100000 in
theorem ok_D_isWaiting : mm_okM mm_pr 112 mm_bd mm_WS mm_cl mm_ft mm_NWs m_D_isWaiting = true := by decide +kernel
set_option maxRecDepth 100000 in
theorem ok_S_isOver : mm_okM mm_pr 112 mm_bd mm_WS mm_cl mm_ft mm_NWs m_S_isOver = true := by decide +kernel
set_option maxRecDepth 100000 in
theorem ok_S_lastRecord : mm_okM mm_pr 112 mm_bd mm_WS mm_cl mm_ft mm_NWs m_S_lastRecord = true := by decide +kernel
set_option maxRecDepth 100000 in
theorem ok_G_isSafe : mm_okM mm_pr 112 mm_bd mm_WS mm_cl mm_ft mm_NWs m_G_isSafe = true := by decide +kernel
set_option maxRecDepth 100000 in
theorem ok_D_nextRequest : mm_okM mm_pr 112 mm_bd mm_WS mm_cl mm_ft mm_NWs m_D_nextRequest = true := by decide +kernel
set_option maxRecDepth 100000 in
theorem ok_S_nextStep : mm_okM mm_pr 112 mm_bd mm_WS mm_cl mm_ft mm_NWs m_S_nextStep = true := by decide +kernel
set_option maxRecDepth 100000 in
theorem ok_S_kindNumber : mm_okM mm_pr 112 mm_bd mm_WS mm_cl mm_ft mm_NWs m_S_kindNumber = true := by decide +kernel
set_option maxRecDepth 100000 in
theorem ok_K_nodeAt : mm_okM mm_pr 112 mm_bd mm_WS mm_cl mm_ft mm_NWs m_K_nodeAt = true := by decide +kernel
set_option maxRecDepth 100000 in
theorem ok_S_goesBack : mm_okM mm_pr 112 mm_bd mm_WS mm_cl mm_ft mm_NWs m_S_goesBack = true := by decide +kernel
set_option maxRecDepth 100000 in
theorem ok_L_put : mm_okM mm_pr 112 mm_bd mm_WS mm_cl mm_ft mm_NWs m_L_put = true := by decide +kernel
set_option maxRecDepth 100000 in
theorem ok_D_deliver : mm_okM mm_pr 112 mm_bd mm_WS mm_cl mm_ft mm_NWs m_D_deliver = true := by decide +kernel
set_option maxRecDepth 100000 in
theorem ok_L_size : mm_okM mm_pr 112 mm_bd mm_WS mm_cl mm_ft mm_NWs m_L_size = true := by decide +kernel
set_option maxRecDepth 100000 in
theorem ok_L_take : mm_okM mm_pr 112 mm_bd mm_WS mm_cl mm_ft mm_NWs m_L_take = true := by decide +kernel
set_option maxRecDepth 100000 in
theorem ok_D_answerIn : mm_okM mm_pr 112 mm_bd mm_WS mm_cl mm_ft mm_NWs m_D_answerIn = true := by decide +kernel
set_option maxRecDepth 100000 in
theorem ok_D_takeRequest : mm_okM mm_pr 112 mm_bd mm_WS mm_cl mm_ft mm_NWs m_D_takeRequest = true := by decide +kernel
set_option maxRecDepth 100000 in
theorem ok_D_nodeOf : mm_okM mm_pr 112 mm_bd mm_WS mm_cl mm_ft mm_NWs m_D_nodeOf = true := by decide +kernel
set_option maxRecDepth 100000 in
theorem ok_D_nameOf : mm_okM mm_pr 112 mm_bd mm_WS mm_cl mm_ft mm_NWs m_D_nameOf = true := by decide +kernel
set_option maxRecDepth 100000 in
theorem ok_D_sagaOf : mm_okM mm_pr 112 mm_bd mm_WS mm_cl mm_ft mm_NWs m_D_sagaOf = true := by decide +kernel
set_option maxRecDepth 100000 in
theorem ok_D_stepOf : mm_okM mm_pr 112 mm_bd mm_WS mm_cl mm_ft mm_NWs m_D_stepOf = true := by decide +kernel
set_option maxRecDepth 100000 in
theorem ok_D_isToUndo : mm_okM mm_pr 112 mm_bd mm_WS mm_cl mm_ft mm_NWs m_D_isToUndo = true := by decide +kernel
set_option maxRecDepth 100000 in
theorem ok_V_answerTo : mm_okM mm_pr 112 mm_bd mm_WS mm_cl mm_ft mm_NWs m_V_answerTo = true := by decide +kernel
set_option maxRecDepth 100000 in
theorem ok_D_replyTo : mm_okM mm_pr 112 mm_bd mm_WS mm_cl mm_ft mm_NWs m_D_replyTo = true := by decide +kernel
set_option maxRecDepth 100000 in
theorem ok_V_attempt : mm_okM mm_pr 112 mm_bd mm_WS mm_cl mm_ft mm_NWs m_V_attempt = true := by decide +kernel
set_option maxRecDepth 100000 in
theorem ok_K_thingAt : mm_okM mm_pr 112 mm_bd mm_WS mm_cl mm_ft mm_NWs m_K_thingAt = true := by decide +kernel
set_option maxRecDepth 100000 in
theorem ok_K_changeBy : mm_okM mm_pr 112 mm_bd mm_WS mm_cl mm_ft mm_NWs m_K_changeBy = true := by decide +kernel
set_option maxRecDepth 100000 in
theorem ok_K_isAllowed : mm_okM mm_pr 112 mm_bd mm_WS mm_cl mm_ft mm_NWs m_K_isAllowed = true := by decide +kernel
set_option maxRecDepth 100000 in
theorem ok_V_keepAnswer : mm_okM mm_pr 112 mm_bd mm_WS mm_cl mm_ft mm_NWs m_V_keepAnswer = true := by decide +kernel
set_option maxRecDepth 100000 in
theorem ok_D_takeReply : mm_okM mm_pr 112 mm_bd mm_WS mm_cl mm_ft mm_NWs m_D_takeReply = true := by decide +kernel
set_option maxRecDepth 100000 in
theorem ok_D_requestOf : mm_okM mm_pr 112 mm_bd mm_WS mm_cl mm_ft mm_NWs m_D_requestOf = true := by decide +kernel
set_option maxRecDepth 100000 in
theorem ok_D_recordFor : mm_okM mm_pr 112 mm_bd mm_WS mm_cl mm_ft mm_NWs m_D_recordFor = true := by decide +kernel
set_option maxRecDepth 100000 in
theorem ok_D_lose : mm_okM mm_pr 112 mm_bd mm_WS mm_cl mm_ft mm_NWs m_D_lose = true := by decide +kernel
set_option maxRecDepth 100000 in
theorem ok_D_repeat : mm_okM mm_pr 112 mm_bd mm_WS mm_cl mm_ft mm_NWs m_D_repeat = true := by decide +kernel
set_option maxRecDepth 100000 in
theorem ok_L_at : mm_okM mm_pr 112 mm_bd mm_WS mm_cl mm_ft mm_NWs m_L_at = true := by decide +kernel
set_option maxRecDepth 100000 in
theorem ok_D_resend : mm_okM mm_pr 112 mm_bd mm_WS mm_cl mm_ft mm_NWs m_D_resend = true := by decide +kernel
set_option maxRecDepth 100000 in
theorem ok_D_crash : mm_okM mm_pr 112 mm_bd mm_WS mm_cl mm_ft mm_NWs m_D_crash = true := by decide +kernel
set_option maxRecDepth 100000 in
theorem ok_G_dropUnsafe : mm_okM mm_pr 112 mm_bd mm_WS mm_cl mm_ft mm_NWs m_G_dropUnsafe = true := by decide +kernel
set_option maxRecDepth 100000 in
theorem ok_D_readLogAgain : mm_okM mm_pr 112 mm_bd mm_WS mm_cl mm_ft mm_NWs m_D_readLogAgain = true := by decide +kernel
set_option maxRecDepth 100000 in
theorem ok_D_restart : mm_okM mm_pr 112 mm_bd mm_WS mm_cl mm_ft mm_NWs m_D_restart = true := by decide +kernel
set_option maxRecDepth 100000 in
theorem ok_G_dropTornRecord : mm_okM mm_pr 112 mm_bd mm_WS mm_cl mm_ft mm_NWs m_G_dropTornRecord = true := by decide +kernel
set_option maxRecDepth 100000 in
theorem ok_D_amount : mm_okM mm_pr 112 mm_bd mm_WS mm_cl mm_ft mm_NWs m_D_amount = true := by decide +kernel
set_option maxRecDepth 100000 in
theorem ok_V_stockOf : mm_okM mm_pr 112 mm_bd mm_WS mm_cl mm_ft mm_NWs m_V_stockOf = true := by decide +kernel
set_option maxRecDepth 100000 in
theorem ok_D_status : mm_okM mm_pr 112 mm_bd mm_WS mm_cl mm_ft mm_NWs m_D_status = true := by decide +kernel
set_option maxRecDepth 100000 in
theorem ok_S_standing : mm_okM mm_pr 112 mm_bd mm_WS mm_cl mm_ft mm_NWs m_S_standing = true := by decide +kernel
set_option maxRecDepth 100000 in
theorem ok_D_messages : mm_okM mm_pr 112 mm_bd mm_WS mm_cl mm_ft mm_NWs m_D_messages = true := by decide +kernel
set_option maxRecDepth 100000 in
theorem ok_D_message : mm_okM mm_pr 112 mm_bd mm_WS mm_cl mm_ft mm_NWs m_D_message = true := by decide +kernel
set_option maxRecDepth 100000 in
theorem ok_D_logged : mm_okM mm_pr 112 mm_bd mm_WS mm_cl mm_ft mm_NWs m_D_logged = true := by decide +kernel
set_option maxRecDepth 100000 in
theorem ok_D_durable : mm_okM mm_pr 112 mm_bd mm_WS mm_cl mm_ft mm_NWs m_D_durable = true := by decide +kernel
set_option maxRecDepth 100000 in
theorem ok_D_logByte : mm_okM mm_pr 112 mm_bd mm_WS mm_cl mm_ft mm_NWs m_D_logByte = true := by decide +kernel
set_option maxRecDepth 100000 in
theorem ok_G_byteAt : mm_okM mm_pr 112 mm_bd mm_WS mm_cl mm_ft mm_NWs m_G_byteAt = true := by decide +kernel
set_option maxRecDepth 100000 in
theorem ok_D_answered : mm_okM mm_pr 112 mm_bd mm_WS mm_cl mm_ft mm_NWs m_D_answered = true := by decide +kernel
set_option maxRecDepth 100000 in
theorem ok_V_answerCount : mm_okM mm_pr 112 mm_bd mm_WS mm_cl mm_ft mm_NWs m_V_answerCount = true := by decide +kernel
set_option maxRecDepth 100000 in
theorem ok_D_up : mm_okM mm_pr 112 mm_bd mm_WS mm_cl mm_ft mm_NWs m_D_up = true := by decide +kernel
set_option maxRecDepth 100000 in
theorem ok_M_init : mm_okM mm_pr 112 mm_bd mm_WS mm_cl mm_ft mm_NWs m_M_init = true := by decide +kernel
set_option maxRecDepth 100000 in
theorem ok_M_addStep : mm_okM mm_pr 112 mm_bd mm_WS mm_cl mm_ft mm_NWs m_M_addStep = true := by decide +kernel
set_option maxRecDepth 100000 in
theorem ok_M_supply : mm_okM mm_pr 112 mm_bd mm_WS mm_cl mm_ft mm_NWs m_M_supply = true := by decide +kernel
set_option maxRecDepth 100000 in
theorem ok_M_lose : mm_okM mm_pr 112 mm_bd mm_WS mm_cl mm_ft mm_NWs m_M_lose = true := by decide +kernel
set_option maxRecDepth 100000 in
theorem ok_M_isMessage : mm_okM mm_pr 112 mm_bd mm_WS mm_cl mm_ft mm_NWs m_M_isMessage = true := by decide +kernel
set_option maxRecDepth 100000 in
theorem ok_M_remove : mm_okM mm_pr 112 mm_bd mm_WS mm_cl mm_ft mm_NWs m_M_remove = true := by decide +kernel
set_option maxRecDepth 100000 in
theorem ok_M_repeat : mm_okM mm_pr 112 mm_bd mm_WS mm_cl mm_ft mm_NWs m_M_repeat = true := by decide +kernel
set_option maxRecDepth 100000 in
theorem ok_M_send : mm_okM mm_pr 112 mm_bd mm_WS mm_cl mm_ft mm_NWs m_M_send = true := by decide +kernel
set_option maxRecDepth 100000 in
theorem ok_M_deliver : mm_okM mm_pr 112 mm_bd mm_WS mm_cl mm_ft mm_NWs m_M_deliver = true := by decide +kernel
set_option maxRecDepth 100000 in
theorem ok_M_request : mm_okM mm_pr 112 mm_bd mm_WS mm_cl mm_ft mm_NWs m_M_request = true := by decide +kernel
set_option maxRecDepth 100000 in
theorem ok_M_nodeOf : mm_okM mm_pr 112 mm_bd mm_WS mm_cl mm_ft mm_NWs m_M_nodeOf = true := by decide +kernel
set_option maxRecDepth 100000 in
theorem ok_M_read : mm_okM mm_pr 112 mm_bd mm_WS mm_cl mm_ft mm_NWs m_M_read = true := by decide +kernel
set_option maxRecDepth 100000 in
theorem ok_M_reply : mm_okM mm_pr 112 mm_bd mm_WS mm_cl mm_ft mm_NWs m_M_reply = true := by decide +kernel
set_option maxRecDepth 100000 in
theorem ok_M_waits : mm_okM mm_pr 112 mm_bd mm_WS mm_cl mm_ft mm_NWs m_M_waits = true := by decide +kernel
set_option maxRecDepth 100000 in
theorem ok_M_over : mm_okM mm_pr 112 mm_bd mm_WS mm_cl mm_ft mm_NWs m_M_over = true := by decide +kernel
set_option maxRecDepth 100000 in
theorem ok_M_nextStep : mm_okM mm_pr 112 mm_bd mm_WS mm_cl mm_ft mm_NWs m_M_nextStep = true := by decide +kernel
set_option maxRecDepth 100000 in
theorem ok_M_write : mm_okM mm_pr 112 mm_bd mm_WS mm_cl mm_ft mm_NWs m_M_write = true := by decide +kernel
set_option maxRecDepth 100000 in
theorem ok_M_begin : mm_okM mm_pr 112 mm_bd mm_WS mm_cl mm_ft mm_NWs m_M_begin = true := by decide +kernel
set_option maxRecDepth 100000 in
theorem ok_M_sagas : mm_okM mm_pr 112 mm_bd mm_WS mm_cl mm_ft mm_NWs m_M_sagas = true := by decide +kernel
set_option maxRecDepth 100000 in
theorem ok_M_flush : mm_okM mm_pr 112 mm_bd mm_WS mm_cl mm_ft mm_NWs m_M_flush = true := by decide +kernel
set_option maxRecDepth 100000 in
theorem ok_M_sendNext : mm_okM mm_pr 112 mm_bd mm_WS mm_cl mm_ft mm_NWs m_M_sendNext = true := by decide +kernel
set_option maxRecDepth 100000 in
theorem ok_M_resend : mm_okM mm_pr 112 mm_bd mm_WS mm_cl mm_ft mm_NWs m_M_resend = true := by decide +kernel
set_option maxRecDepth 100000 in
theorem ok_M_crash : mm_okM mm_pr 112 mm_bd mm_WS mm_cl mm_ft mm_NWs m_M_crash = true := by decide +kernel
set_option maxRecDepth 100000 in
theorem ok_M_restart : mm_okM mm_pr 112 mm_bd mm_WS mm_cl mm_ft mm_NWs m_M_restart = true := by decide +kernel
set_option maxRecDepth 100000 in
theorem ok_M_amount : mm_okM mm_pr 112 mm_bd mm_WS mm_cl mm_ft mm_NWs m_M_amount = true := by decide +kernel
set_option maxRecDepth 100000 in
theorem ok_M_status : mm_okM mm_pr 112 mm_bd mm_WS mm_cl mm_ft mm_NWs m_M_status = true := by decide +kernel
set_option maxRecDepth 100000 in
theorem ok_M_messages : mm_okM mm_pr 112 mm_bd mm_WS mm_cl mm_ft mm_NWs m_M_messages = true := by decide +kernel
set_option maxRecDepth 100000 in
theorem ok_M_message : mm_okM mm_pr 112 mm_bd mm_WS mm_cl mm_ft mm_NWs m_M_message = true := by decide +kernel
set_option maxRecDepth 100000 in
theorem ok_M_logged : mm_okM mm_pr 112 mm_bd mm_WS mm_cl mm_ft mm_NWs m_M_logged = true := by decide +kernel
set_option maxRecDepth 100000 in
theorem ok_M_durable : mm_okM mm_pr 112 mm_bd mm_WS mm_cl mm_ft mm_NWs m_M_durable = true := by decide +kernel
set_option maxRecDepth 100000 in
theorem ok_M_logByte : mm_okM mm_pr 112 mm_bd mm_WS mm_cl mm_ft mm_NWs m_M_logByte = true := by decide +kernel
set_option maxRecDepth 100000 in
theorem ok_M_answered : mm_okM mm_pr 112 mm_bd mm_WS mm_cl mm_ft mm_NWs m_M_answered = true := by decide +kernel
set_option maxRecDepth 100000 in
theorem ok_M_up : mm_okM mm_pr 112 mm_bd mm_WS mm_cl mm_ft mm_NWs m_M_up = true := by decide +kernel
set_option maxRecDepth 100000 in
theorem ok_W_law : mm_okM mm_pr 112 mm_bd mm_WS mm_cl mm_ft mm_NWs m_W_law = true := by decide +kernel
