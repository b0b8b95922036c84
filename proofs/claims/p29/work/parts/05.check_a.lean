set_option maxRecDepth 100000 in
theorem ck_X0_init : ckP m_X0_init := ckP_of (by decide +kernel)
set_option maxRecDepth 100000 in
theorem ck_X0_takeFrom : ckP m_X0_takeFrom := ckP_of (by decide +kernel)
set_option maxRecDepth 100000 in
theorem ck_X0_join : ckP m_X0_join := ckP_of (by decide +kernel)
set_option maxRecDepth 100000 in
theorem ck_X0_owing : ckP m_X0_owing := ckP_of (by decide +kernel)
set_option maxRecDepth 100000 in
theorem ck_X0_owes : ckP m_X0_owes := ckP_of (by decide +kernel)
set_option maxRecDepth 100000 in
theorem ck_X0_owedTo : ckP m_X0_owedTo := ckP_of (by decide +kernel)
set_option maxRecDepth 100000 in
theorem ck_X0_all : ckP m_X0_all := ckP_of (by decide +kernel)
set_option maxRecDepth 100000 in
theorem ck_X0_value : ckP m_X0_value := ckP_of (by decide +kernel)
set_option maxRecDepth 100000 in
theorem ck_X0_pays : ckP m_X0_pays := ckP_of (by decide +kernel)
set_option maxRecDepth 100000 in
theorem ck_X0_will : ckP m_X0_will := ckP_of (by decide +kernel)
set_option maxRecDepth 100000 in
theorem ck_X0_breath : ckP m_X0_breath := ckP_of (by decide +kernel)
set_option maxRecDepth 100000 in
theorem ck_X0_may : ckP m_X0_may := ckP_of (by decide +kernel)
set_option maxRecDepth 100000 in
theorem ck_X0_step : ckP m_X0_step := ckP_of (by decide +kernel)
set_option maxRecDepth 100000 in
theorem ck_X0_lessen : ckP m_X0_lessen := ckP_of (by decide +kernel)
set_option maxRecDepth 100000 in
theorem ck_X0_settle : ckP m_X0_settle := ckP_of (by decide +kernel)
set_option maxRecDepth 100000 in
theorem ck_X0_danceRound : ckP m_X0_danceRound := ckP_of (by decide +kernel)
set_option maxRecDepth 100000 in
theorem ck_X0_endNight : ckP m_X0_endNight := ckP_of (by decide +kernel)
set_option maxRecDepth 100000 in
theorem ck_X0_ends : ckP m_X0_ends := ckP_of (by decide +kernel)
set_option maxRecDepth 100000 in
theorem ck_X0_stillOwed : ckP m_X0_stillOwed := ckP_of (by decide +kernel)
set_option maxRecDepth 100000 in
theorem ck_X0_keeps : ckP m_X0_keeps := ckP_of (by decide +kernel)
