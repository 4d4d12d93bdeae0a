set_option maxRecDepth 100000 in
theorem ck_X4_areActs : m_ckM M_X4_areActs = true := by decide +kernel
set_option maxRecDepth 100000 in
theorem ck_X4_isAct : m_ckM M_X4_isAct = true := by decide +kernel
set_option maxRecDepth 100000 in
theorem ck_X4_firstWrong : m_ckM M_X4_firstWrong = true := by decide +kernel
set_option maxRecDepth 100000 in
theorem ck_X4_answerOfDay : m_ckM M_X4_answerOfDay = true := by decide +kernel
set_option maxRecDepth 100000 in
theorem ck_X4_isAskedOfDay : m_ckM M_X4_isAskedOfDay = true := by decide +kernel
set_option maxRecDepth 100000 in
theorem ck_X4_whole : m_ckM M_X4_whole = true := by decide +kernel
set_option maxRecDepth 100000 in
theorem ck_X4_most : m_ckM M_X4_most = true := by decide +kernel
set_option maxRecDepth 100000 in
theorem ck_X4_startIn : m_ckM M_X4_startIn = true := by decide +kernel
set_option maxRecDepth 100000 in
theorem ck_X4_strayed : m_ckM M_X4_strayed = true := by decide +kernel
set_option maxRecDepth 100000 in
theorem ck_X4_saved : m_ckM M_X4_saved = true := by decide +kernel
set_option maxRecDepth 100000 in
theorem ck_X4_savesBy : m_ckM M_X4_savesBy = true := by decide +kernel
set_option maxRecDepth 100000 in
theorem ck_X4_misprint : m_ckM M_X4_misprint = true := by decide +kernel
set_option maxRecDepth 100000 in
theorem ck_X4_isWetBy : m_ckM M_X4_isWetBy = true := by decide +kernel
set_option maxRecDepth 100000 in
theorem ck_X4_rests : m_ckM M_X4_rests = true := by decide +kernel
set_option maxRecDepth 100000 in
theorem ck_X4_painOfFirst : m_ckM M_X4_painOfFirst = true := by decide +kernel
set_option maxRecDepth 100000 in
theorem ck_X4_painOfSecond : m_ckM M_X4_painOfSecond = true := by decide +kernel
set_option maxRecDepth 100000 in
theorem ck_X4_coughInTrial : m_ckM M_X4_coughInTrial = true := by decide +kernel
set_option maxRecDepth 100000 in
theorem ck_X4_reading : m_ckM M_X4_reading = true := by decide +kernel
set_option maxRecDepth 100000 in
theorem ck_X4_back : m_ckM M_X4_back = true := by decide +kernel
set_option maxRecDepth 100000 in
theorem ck_X4_kinds : m_ckM M_X4_kinds = true := by decide +kernel
set_option maxRecDepth 100000 in
theorem ck_X4_paces : m_ckM M_X4_paces = true := by decide +kernel
set_option maxRecDepth 100000 in
theorem ck_X4_starts : m_ckM M_X4_starts = true := by decide +kernel
set_option maxRecDepth 100000 in
theorem ck_X4_fitting : m_ckM M_X4_fitting = true := by decide +kernel
set_option maxRecDepth 100000 in
theorem ck_X4_allReadingsAreSo : m_ckM M_X4_allReadingsAreSo = true := by decide +kernel
set_option maxRecDepth 100000 in
theorem ck_X4_odds : m_ckM M_X4_odds = true := by decide +kernel
set_option maxRecDepth 100000 in
theorem ck_X4_commonPart : m_ckM M_X4_commonPart = true := by decide +kernel
set_option maxRecDepth 100000 in
theorem ck_X4_sheet : m_ckM M_X4_sheet = true := by decide +kernel
set_option maxRecDepth 100000 in
theorem ck_X4_lose : m_ckM M_X4_lose = true := by decide +kernel
set_option maxRecDepth 100000 in
theorem ck_X4_put : m_ckM M_X4_put = true := by decide +kernel
set_option maxRecDepth 100000 in
theorem ck_X4_cell : m_ckM M_X4_cell = true := by decide +kernel
set_option maxRecDepth 100000 in
theorem ck_X4_copy : m_ckM M_X4_copy = true := by decide +kernel
