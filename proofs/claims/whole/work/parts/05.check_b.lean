set_option maxRecDepth 100000 in
theorem ck_X1_hold : ckP m_X1_hold := ckP_of (by decide +kernel)
set_option maxRecDepth 100000 in
theorem ck_X1_read : ckP m_X1_read := ckP_of (by decide +kernel)
set_option maxRecDepth 100000 in
theorem ck_X1_pass : ckP m_X1_pass := ckP_of (by decide +kernel)
set_option maxRecDepth 100000 in
theorem ck_X1_put : ckP m_X1_put := ckP_of (by decide +kernel)
set_option maxRecDepth 100000 in
theorem ck_X1_either : ckP m_X1_either := ckP_of (by decide +kernel)
set_option maxRecDepth 100000 in
theorem ck_X1_both : ckP m_X1_both := ckP_of (by decide +kernel)
set_option maxRecDepth 100000 in
theorem ck_X1_denied : ckP m_X1_denied := ckP_of (by decide +kernel)
set_option maxRecDepth 100000 in
theorem ck_X1_compared : ckP m_X1_compared := ckP_of (by decide +kernel)
set_option maxRecDepth 100000 in
theorem ck_X1_sum : ckP m_X1_sum := ckP_of (by decide +kernel)
set_option maxRecDepth 100000 in
theorem ck_X1_term : ckP m_X1_term := ckP_of (by decide +kernel)
set_option maxRecDepth 100000 in
theorem ck_X1_one : ckP m_X1_one := ckP_of (by decide +kernel)
set_option maxRecDepth 100000 in
theorem ck_X1_opens : ckP m_X1_opens := ckP_of (by decide +kernel)
set_option maxRecDepth 100000 in
theorem ck_X1_next : ckP m_X1_next := ckP_of (by decide +kernel)
set_option maxRecDepth 100000 in
theorem ck_X1_nextNumber : ckP m_X1_nextNumber := ckP_of (by decide +kernel)
set_option maxRecDepth 100000 in
theorem ck_X1_nextWord : ckP m_X1_nextWord := ckP_of (by decide +kernel)
set_option maxRecDepth 100000 in
theorem ck_X1_spells : ckP m_X1_spells := ckP_of (by decide +kernel)
set_option maxRecDepth 100000 in
theorem ck_X1_isDigit : ckP m_X1_isDigit := ckP_of (by decide +kernel)
set_option maxRecDepth 100000 in
theorem ck_X1_isLetter : ckP m_X1_isLetter := ckP_of (by decide +kernel)
set_option maxRecDepth 100000 in
theorem ck_X2_init : ckP m_X2_init := ckP_of (by decide +kernel)
set_option maxRecDepth 100000 in
theorem ck_X2_keep : ckP m_X2_keep := ckP_of (by decide +kernel)
set_option maxRecDepth 100000 in
theorem ck_X2_value : ckP m_X2_value := ckP_of (by decide +kernel)
set_option maxRecDepth 100000 in
theorem ck_X3_init : ckP m_X3_init := ckP_of (by decide +kernel)
set_option maxRecDepth 100000 in
theorem ck_X3_become : ckP m_X3_become := ckP_of (by decide +kernel)
set_option maxRecDepth 100000 in
theorem ck_X3_holds : ckP m_X3_holds := ckP_of (by decide +kernel)
set_option maxRecDepth 100000 in
theorem ck_X3_put : ckP m_X3_put := ckP_of (by decide +kernel)
set_option maxRecDepth 100000 in
theorem ck_X4_init : ckP m_X4_init := ckP_of (by decide +kernel)
set_option maxRecDepth 100000 in
theorem ck_X5_init : ckP m_X5_init := ckP_of (by decide +kernel)
set_option maxRecDepth 100000 in
theorem ck_X5_set : ckP m_X5_set := ckP_of (by decide +kernel)
set_option maxRecDepth 100000 in
theorem ck_X5_dancer : ckP m_X5_dancer := ckP_of (by decide +kernel)
set_option maxRecDepth 100000 in
theorem ck_X5_told : ckP m_X5_told := ckP_of (by decide +kernel)
set_option maxRecDepth 100000 in
theorem ck_X5_asks : ckP m_X5_asks := ckP_of (by decide +kernel)
set_option maxRecDepth 100000 in
theorem ck_X5_isDancer : ckP m_X5_isDancer := ckP_of (by decide +kernel)
set_option maxRecDepth 100000 in
theorem ck_X5_isTwo : ckP m_X5_isTwo := ckP_of (by decide +kernel)
