set_option maxRecDepth 100000 in
theorem ck_X5_debtPlace : ckP m_X5_debtPlace := ckP_of (by decide +kernel)
set_option maxRecDepth 100000 in
theorem ck_X5_feed : ckP m_X5_feed := ckP_of (by decide +kernel)
set_option maxRecDepth 100000 in
theorem ck_X5_text : ckP m_X5_text := ckP_of (by decide +kernel)
set_option maxRecDepth 100000 in
theorem ck_X5_force : ckP m_X5_force := ckP_of (by decide +kernel)
set_option maxRecDepth 100000 in
theorem ck_X5_dance : ckP m_X5_dance := ckP_of (by decide +kernel)
set_option maxRecDepth 100000 in
theorem ck_X5_round : ckP m_X5_round := ckP_of (by decide +kernel)
set_option maxRecDepth 100000 in
theorem ck_X5_night : ckP m_X5_night := ckP_of (by decide +kernel)
set_option maxRecDepth 100000 in
theorem ck_X5_strike : ckP m_X5_strike := ckP_of (by decide +kernel)
set_option maxRecDepth 100000 in
theorem ck_X5_readRing : ckP m_X5_readRing := ckP_of (by decide +kernel)
set_option maxRecDepth 100000 in
theorem ck_X5_run : ckP m_X5_run := ckP_of (by decide +kernel)
set_option maxRecDepth 100000 in
theorem ck_X5_think : ckP m_X5_think := ckP_of (by decide +kernel)
set_option maxRecDepth 100000 in
theorem ck_X5_best : ckP m_X5_best := ckP_of (by decide +kernel)
set_option maxRecDepth 100000 in
theorem ck_X5_share : ckP m_X5_share := ckP_of (by decide +kernel)
set_option maxRecDepth 100000 in
theorem ck_X5_sitters : ckP m_X5_sitters := ckP_of (by decide +kernel)
set_option maxRecDepth 100000 in
theorem ck_X5_soonest : ckP m_X5_soonest := ckP_of (by decide +kernel)
set_option maxRecDepth 100000 in
theorem ck_X5_clears : ckP m_X5_clears := ckP_of (by decide +kernel)
set_option maxRecDepth 100000 in
theorem ck_X5_lowest : ckP m_X5_lowest := ckP_of (by decide +kernel)
set_option maxRecDepth 100000 in
theorem ck_X5_tells : ckP m_X5_tells := ckP_of (by decide +kernel)
set_option maxRecDepth 100000 in
theorem ck_X5_kindsTold : ckP m_X5_kindsTold := ckP_of (by decide +kernel)
set_option maxRecDepth 100000 in
theorem ck_X5_numbersTold : ckP m_X5_numbersTold := ckP_of (by decide +kernel)
set_option maxRecDepth 100000 in
theorem ck_X5_roundsTold : ckP m_X5_roundsTold := ckP_of (by decide +kernel)
set_option maxRecDepth 100000 in
theorem ck_X5_donesTold : ckP m_X5_donesTold := ckP_of (by decide +kernel)
set_option maxRecDepth 100000 in
theorem ck_X5_textsTold : ckP m_X5_textsTold := ckP_of (by decide +kernel)
set_option maxRecDepth 100000 in
theorem ck_X5_dancersTold : ckP m_X5_dancersTold := ckP_of (by decide +kernel)
set_option maxRecDepth 100000 in
theorem ck_X5_film : ckP m_X5_film := ckP_of (by decide +kernel)
set_option maxRecDepth 100000 in
theorem ck_X5_drawn : ckP m_X5_drawn := ckP_of (by decide +kernel)
set_option maxRecDepth 100000 in
theorem ck_X5_chance : ckP m_X5_chance := ckP_of (by decide +kernel)
set_option maxRecDepth 100000 in
theorem ck_X5_image : ckP m_X5_image := ckP_of (by decide +kernel)
set_option maxRecDepth 100000 in
theorem ck_X5_back : ckP m_X5_back := ckP_of (by decide +kernel)
set_option maxRecDepth 100000 in
theorem ck_X5_count : ckP m_X5_count := ckP_of (by decide +kernel)
set_option maxRecDepth 100000 in
theorem ck_X5_sheet : ckP m_X5_sheet := ckP_of (by decide +kernel)
set_option maxRecDepth 100000 in
theorem ck_X5_cell : ckP m_X5_cell := ckP_of (by decide +kernel)
set_option maxRecDepth 100000 in
theorem ck_X5_copy : ckP m_X5_copy := ckP_of (by decide +kernel)
