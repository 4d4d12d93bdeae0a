set_option maxRecDepth 100000 in
theorem ck_X5_areSo : m_ckM M_X5_areSo = true := by decide +kernel
set_option maxRecDepth 100000 in
theorem ck_X5_kinds : m_ckM M_X5_kinds = true := by decide +kernel
set_option maxRecDepth 100000 in
theorem ck_X5_paces : m_ckM M_X5_paces = true := by decide +kernel
set_option maxRecDepth 100000 in
theorem ck_X5_starts : m_ckM M_X5_starts = true := by decide +kernel
set_option maxRecDepth 100000 in
theorem ck_X5_odds : m_ckM M_X5_odds = true := by decide +kernel
set_option maxRecDepth 100000 in
theorem ck_X5_noSheet : m_ckM M_X5_noSheet = true := by decide +kernel
set_option maxRecDepth 100000 in
theorem ck_X5_sheet : m_ckM M_X5_sheet = true := by decide +kernel
set_option maxRecDepth 100000 in
theorem ck_X5_lose : m_ckM M_X5_lose = true := by decide +kernel
set_option maxRecDepth 100000 in
theorem ck_X5_noCell : m_ckM M_X5_noCell = true := by decide +kernel
set_option maxRecDepth 100000 in
theorem ck_X5_put : m_ckM M_X5_put = true := by decide +kernel
set_option maxRecDepth 100000 in
theorem ck_X5_cell : m_ckM M_X5_cell = true := by decide +kernel
set_option maxRecDepth 100000 in
theorem ck_X5_isBeyond : m_ckM M_X5_isBeyond = true := by decide +kernel
set_option maxRecDepth 100000 in
theorem ck_X5_copy : m_ckM M_X5_copy = true := by decide +kernel
set_option maxRecDepth 100000 in
theorem ck_X5_traced : m_ckM M_X5_traced = true := by decide +kernel
set_option maxRecDepth 100000 in
theorem ck_X5_tell : m_ckM M_X5_tell = true := by decide +kernel
set_option maxRecDepth 100000 in
theorem ck_X5_bribe : m_ckM M_X5_bribe = true := by decide +kernel
set_option maxRecDepth 100000 in
theorem ck_X5_as : m_ckM M_X5_as = true := by decide +kernel
set_option maxRecDepth 100000 in
theorem ck_X5_trace : m_ckM M_X5_trace = true := by decide +kernel
set_option maxRecDepth 100000 in
theorem ck_X5_fault : m_ckM M_X5_fault = true := by decide +kernel
set_option maxRecDepth 100000 in
theorem ck_X5_many : m_ckM M_X5_many = true := by decide +kernel
set_option maxRecDepth 100000 in
theorem ck_J6_bitCount_0f7a4 : m_ckM M_J6_bitCount_0f7a4 = true := by decide +kernel
set_option maxRecDepth 100000 in
theorem ck_J7_fill_53178 : m_ckM M_J7_fill_53178 = true := by decide +kernel
set_option maxRecDepth 100000 in
theorem ck_J9_max_7cf53 : m_ckM M_J9_max_7cf53 = true := by decide +kernel
