set_option maxRecDepth 100000 in
theorem ck_X5_numbersTold : ckP m_X5_numbersTold := ckP_of (by decide +kernel)
set_option maxRecDepth 100000 in
theorem ck_X5_roundsTold : ckP m_X5_roundsTold := ckP_of (by decide +kernel)
set_option maxRecDepth 100000 in
theorem ck_X5_donesTold : ckP m_X5_donesTold := ckP_of (by decide +kernel)
set_option maxRecDepth 100000 in
theorem ck_X5_textsTold : ckP m_X5_textsTold := ckP_of (by decide +kernel)
set_option maxRecDepth 100000 in
theorem ck_X5_dancersTold : ckP m_X5_dancersTold := ckP_of (by decide +kernel)
set_option maxRecDepth 100000 in
theorem ck_X5_film : ckP m_X5_film := ckP_of (by decide +kernel)
set_option maxRecDepth 100000 in
theorem ck_X5_image : ckP m_X5_image := ckP_of (by decide +kernel)
set_option maxRecDepth 100000 in
theorem ck_X5_back : ckP m_X5_back := ckP_of (by decide +kernel)
set_option maxRecDepth 100000 in
theorem ck_X5_count : ckP m_X5_count := ckP_of (by decide +kernel)
set_option maxRecDepth 100000 in
theorem ck_X5_isSheet : ckP m_X5_isSheet := ckP_of (by decide +kernel)
set_option maxRecDepth 100000 in
theorem ck_X5_within : ckP m_X5_within := ckP_of (by decide +kernel)
set_option maxRecDepth 100000 in
theorem ck_J6_bitCount_0f7a4 : ckP m_J6_bitCount_0f7a4 := ckP_of (by decide +kernel)
set_option maxRecDepth 100000 in
theorem ck_L_cell : ckP m_L_cell := ckP_of (by decide +kernel)
set_option maxRecDepth 100000 in
theorem ck_L_some : ckP m_L_some := ckP_of (by decide +kernel)
