set_option maxRecDepth 100000 in
theorem ck_X4_tell : m_ckM M_X4_tell = true := by decide +kernel
set_option maxRecDepth 100000 in
theorem ck_X4_plainTelling : m_ckM M_X4_plainTelling = true := by decide +kernel
set_option maxRecDepth 100000 in
theorem ck_X4_mumblingTelling : m_ckM M_X4_mumblingTelling = true := by decide +kernel
set_option maxRecDepth 100000 in
theorem ck_X4_chantingTelling : m_ckM M_X4_chantingTelling = true := by decide +kernel
set_option maxRecDepth 100000 in
theorem ck_X4_bribe : m_ckM M_X4_bribe = true := by decide +kernel
set_option maxRecDepth 100000 in
theorem ck_X4_leave : m_ckM M_X4_leave = true := by decide +kernel
set_option maxRecDepth 100000 in
theorem ck_X4_as : m_ckM M_X4_as = true := by decide +kernel
set_option maxRecDepth 100000 in
theorem ck_X4_trace : m_ckM M_X4_trace = true := by decide +kernel
set_option maxRecDepth 100000 in
theorem ck_X4_fault : m_ckM M_X4_fault = true := by decide +kernel
set_option maxRecDepth 100000 in
theorem ck_X4_many : m_ckM M_X4_many = true := by decide +kernel
set_option maxRecDepth 100000 in
theorem ck_X4_faulted : m_ckM M_X4_faulted = true := by decide +kernel
set_option maxRecDepth 100000 in
theorem ck_X4_refusalOf : m_ckM M_X4_refusalOf = true := by decide +kernel
set_option maxRecDepth 100000 in
theorem ck_X4_hasShower : m_ckM M_X4_hasShower = true := by decide +kernel
set_option maxRecDepth 100000 in
theorem ck_X4_isLine : m_ckM M_X4_isLine = true := by decide +kernel
set_option maxRecDepth 100000 in
theorem ck_X4_isCrier : m_ckM M_X4_isCrier = true := by decide +kernel
set_option maxRecDepth 100000 in
theorem ck_X4_isField : m_ckM M_X4_isField = true := by decide +kernel
set_option maxRecDepth 100000 in
theorem ck_X4_isHour : m_ckM M_X4_isHour = true := by decide +kernel
set_option maxRecDepth 100000 in
theorem ck_X4_isSheet : m_ckM M_X4_isSheet = true := by decide +kernel
set_option maxRecDepth 100000 in
theorem ck_X4_isLane : m_ckM M_X4_isLane = true := by decide +kernel
set_option maxRecDepth 100000 in
theorem ck_X4_isWithin : m_ckM M_X4_isWithin = true := by decide +kernel
set_option maxRecDepth 100000 in
theorem ck_X5_in : m_ckM M_X5_in = true := by decide +kernel
set_option maxRecDepth 100000 in
theorem ck_X5_lost : m_ckM M_X5_lost = true := by decide +kernel
set_option maxRecDepth 100000 in
theorem ck_X5_bits : m_ckM M_X5_bits = true := by decide +kernel
set_option maxRecDepth 100000 in
theorem ck_X5_share : m_ckM M_X5_share = true := by decide +kernel
set_option maxRecDepth 100000 in
theorem ck_X5_refused : m_ckM M_X5_refused = true := by decide +kernel
set_option maxRecDepth 100000 in
theorem ck_X5_failed : m_ckM M_X5_failed = true := by decide +kernel
set_option maxRecDepth 100000 in
theorem ck_X5_failedLong : m_ckM M_X5_failedLong = true := by decide +kernel
set_option maxRecDepth 100000 in
theorem ck_X5_noLine : m_ckM M_X5_noLine = true := by decide +kernel
set_option maxRecDepth 100000 in
theorem ck_X5_noCrier : m_ckM M_X5_noCrier = true := by decide +kernel
set_option maxRecDepth 100000 in
theorem ck_X5_noField : m_ckM M_X5_noField = true := by decide +kernel
set_option maxRecDepth 100000 in
theorem ck_X5_isHour : m_ckM M_X5_isHour = true := by decide +kernel
set_option maxRecDepth 100000 in
theorem ck_X5_codeAt : m_ckM M_X5_codeAt = true := by decide +kernel
set_option maxRecDepth 100000 in
theorem ck_X5_figure : m_ckM M_X5_figure = true := by decide +kernel
set_option maxRecDepth 100000 in
theorem ck_X5_readsLine : m_ckM M_X5_readsLine = true := by decide +kernel
set_option maxRecDepth 100000 in
theorem ck_X5_readsCrier : m_ckM M_X5_readsCrier = true := by decide +kernel
set_option maxRecDepth 100000 in
theorem ck_X5_readsShower : m_ckM M_X5_readsShower = true := by decide +kernel
set_option maxRecDepth 100000 in
theorem ck_X5_cellsBarred : m_ckM M_X5_cellsBarred = true := by decide +kernel
set_option maxRecDepth 100000 in
theorem ck_X5_shower : m_ckM M_X5_shower = true := by decide +kernel
set_option maxRecDepth 100000 in
theorem ck_X5_hourBy : m_ckM M_X5_hourBy = true := by decide +kernel
set_option maxRecDepth 100000 in
theorem ck_X5_reads : m_ckM M_X5_reads = true := by decide +kernel
set_option maxRecDepth 100000 in
theorem ck_X5_given : m_ckM M_X5_given = true := by decide +kernel
set_option maxRecDepth 100000 in
theorem ck_X5_coughs : m_ckM M_X5_coughs = true := by decide +kernel
set_option maxRecDepth 100000 in
theorem ck_X5_falls : m_ckM M_X5_falls = true := by decide +kernel
set_option maxRecDepth 100000 in
theorem ck_X5_rains : m_ckM M_X5_rains = true := by decide +kernel
set_option maxRecDepth 100000 in
theorem ck_X5_wetOfAll : m_ckM M_X5_wetOfAll = true := by decide +kernel
set_option maxRecDepth 100000 in
theorem ck_X5_thoseThatHang : m_ckM M_X5_thoseThatHang = true := by decide +kernel
set_option maxRecDepth 100000 in
theorem ck_X5_thoseOfMud : m_ckM M_X5_thoseOfMud = true := by decide +kernel
set_option maxRecDepth 100000 in
theorem ck_X5_ofLine : m_ckM M_X5_ofLine = true := by decide +kernel
set_option maxRecDepth 100000 in
theorem ck_X5_ofCrier : m_ckM M_X5_ofCrier = true := by decide +kernel
