set_option maxRecDepth 100000 in
theorem ck_X5_dancer : ckP m_X5_dancer := ckP_of (by decide +kernel)
set_option maxRecDepth 100000 in
theorem ck_X5_told : ckP m_X5_told := ckP_of (by decide +kernel)
set_option maxRecDepth 100000 in
theorem ck_X5_asks : ckP m_X5_asks := ckP_of (by decide +kernel)
set_option maxRecDepth 100000 in
theorem ck_X5_isDancer : ckP m_X5_isDancer := ckP_of (by decide +kernel)
set_option maxRecDepth 100000 in
theorem ck_X5_isTwo : ckP m_X5_isTwo := ckP_of (by decide +kernel)
set_option maxRecDepth 100000 in
theorem ck_X5_debtPlace : ckP m_X5_debtPlace := ckP_of (by decide +kernel)
set_option maxRecDepth 100000 in
theorem ck_X5_round : ckP m_X5_round := ckP_of (by decide +kernel)
set_option maxRecDepth 100000 in
theorem ck_X5_night : ckP m_X5_night := ckP_of (by decide +kernel)
set_option maxRecDepth 100000 in
theorem ck_X5_strike : ckP m_X5_strike := ckP_of (by decide +kernel)
set_option maxRecDepth 100000 in
theorem ck_X5_readRing : ckP m_X5_readRing := ckP_of (by decide +kernel)
set_option maxRecDepth 100000 in
theorem ck_X5_run : ckP m_X5_run := ckP_of (by decide +kernel)
set_option maxRecDepth 100000 in
theorem ck_X5_think : ckP m_X5_think := ckP_of (by decide +kernel)
set_option maxRecDepth 100000 in
theorem ck_X5_best : ckP m_X5_best := ckP_of (by decide +kernel)
set_option maxRecDepth 100000 in
theorem ck_X5_share : ckP m_X5_share := ckP_of (by decide +kernel)
set_option maxRecDepth 100000 in
theorem ck_X5_sitters : ckP m_X5_sitters := ckP_of (by decide +kernel)
set_option maxRecDepth 100000 in
theorem ck_X5_soonest : ckP m_X5_soonest := ckP_of (by decide +kernel)
set_option maxRecDepth 100000 in
theorem ck_X5_clears : ckP m_X5_clears := ckP_of (by decide +kernel)
set_option maxRecDepth 100000 in
theorem ck_X5_lowest : ckP m_X5_lowest := ckP_of (by decide +kernel)
set_option maxRecDepth 100000 in
theorem ck_X5_tells : ckP m_X5_tells := ckP_of (by decide +kernel)
set_option maxRecDepth 100000 in
theorem ck_X5_kindsTold : ckP m_X5_kindsTold := ckP_of (by decide +kernel)
