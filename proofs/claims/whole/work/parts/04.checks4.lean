set_option maxRecDepth 100000 in
theorem ck_X5_print : m_ckM M_X5_print = true := by decide +kernel
set_option maxRecDepth 100000 in
theorem ck_X5_begin : m_ckM M_X5_begin = true := by decide +kernel
set_option maxRecDepth 100000 in
theorem ck_X5_coughed : m_ckM M_X5_coughed = true := by decide +kernel
set_option maxRecDepth 100000 in
theorem ck_X5_cough : m_ckM M_X5_cough = true := by decide +kernel
set_option maxRecDepth 100000 in
theorem ck_X5_comes : m_ckM M_X5_comes = true := by decide +kernel
set_option maxRecDepth 100000 in
theorem ck_X5_wetNow : m_ckM M_X5_wetNow = true := by decide +kernel
set_option maxRecDepth 100000 in
theorem ck_X5_wet : m_ckM M_X5_wet = true := by decide +kernel
set_option maxRecDepth 100000 in
theorem ck_X5_isAsTold : m_ckM M_X5_isAsTold = true := by decide +kernel
set_option maxRecDepth 100000 in
theorem ck_X5_doesPair : m_ckM M_X5_doesPair = true := by decide +kernel
set_option maxRecDepth 100000 in
theorem ck_X5_dayOf : m_ckM M_X5_dayOf = true := by decide +kernel
set_option maxRecDepth 100000 in
theorem ck_X5_keeps : m_ckM M_X5_keeps = true := by decide +kernel
set_option maxRecDepth 100000 in
theorem ck_X5_bringsBack : m_ckM M_X5_bringsBack = true := by decide +kernel
set_option maxRecDepth 100000 in
theorem ck_X5_day : m_ckM M_X5_day = true := by decide +kernel
set_option maxRecDepth 100000 in
theorem ck_X5_beginnings : m_ckM M_X5_beginnings = true := by decide +kernel
set_option maxRecDepth 100000 in
theorem ck_X5_begins : m_ckM M_X5_begins = true := by decide +kernel
set_option maxRecDepth 100000 in
theorem ck_X5_startIn : m_ckM M_X5_startIn = true := by decide +kernel
set_option maxRecDepth 100000 in
theorem ck_X5_whole : m_ckM M_X5_whole = true := by decide +kernel
set_option maxRecDepth 100000 in
theorem ck_X5_most : m_ckM M_X5_most = true := by decide +kernel
set_option maxRecDepth 100000 in
theorem ck_X5_strayed : m_ckM M_X5_strayed = true := by decide +kernel
set_option maxRecDepth 100000 in
theorem ck_X5_areSaved : m_ckM M_X5_areSaved = true := by decide +kernel
set_option maxRecDepth 100000 in
theorem ck_X5_saved : m_ckM M_X5_saved = true := by decide +kernel
set_option maxRecDepth 100000 in
theorem ck_X5_apart : m_ckM M_X5_apart = true := by decide +kernel
set_option maxRecDepth 100000 in
theorem ck_X5_misprint : m_ckM M_X5_misprint = true := by decide +kernel
set_option maxRecDepth 100000 in
theorem ck_X5_pain : m_ckM M_X5_pain = true := by decide +kernel
set_option maxRecDepth 100000 in
theorem ck_X5_rests : m_ckM M_X5_rests = true := by decide +kernel
set_option maxRecDepth 100000 in
theorem ck_X5_reading : m_ckM M_X5_reading = true := by decide +kernel
set_option maxRecDepth 100000 in
theorem ck_X5_back : m_ckM M_X5_back = true := by decide +kernel
