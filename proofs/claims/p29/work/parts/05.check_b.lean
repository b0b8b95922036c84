set_option maxRecDepth 100000 in
theorem ck_X0_least : ckP m_X0_least := ckP_of (by decide +kernel)
set_option maxRecDepth 100000 in
theorem ck_X0_ring : ckP m_X0_ring := ckP_of (by decide +kernel)
set_option maxRecDepth 100000 in
theorem ck_X0_longest : ckP m_X0_longest := ckP_of (by decide +kernel)
set_option maxRecDepth 100000 in
theorem ck_X0_mostToMeet : ckP m_X0_mostToMeet := ckP_of (by decide +kernel)
set_option maxRecDepth 100000 in
theorem ck_X0_weigh : ckP m_X0_weigh := ckP_of (by decide +kernel)
set_option maxRecDepth 100000 in
theorem ck_X0_mayAll : ckP m_X0_mayAll := ckP_of (by decide +kernel)
set_option maxRecDepth 100000 in
theorem ck_X0_paidBy : ckP m_X0_paidBy := ckP_of (by decide +kernel)
set_option maxRecDepth 100000 in
theorem ck_X0_bestSet : ckP m_X0_bestSet := ckP_of (by decide +kernel)
set_option maxRecDepth 100000 in
theorem ck_X0_danceSet : ckP m_X0_danceSet := ckP_of (by decide +kernel)
set_option maxRecDepth 100000 in
theorem ck_X0_firstOtherwise : ckP m_X0_firstOtherwise := ckP_of (by decide +kernel)
set_option maxRecDepth 100000 in
theorem ck_X0_paysAs : ckP m_X0_paysAs := ckP_of (by decide +kernel)
set_option maxRecDepth 100000 in
theorem ck_X1_init : ckP m_X1_init := ckP_of (by decide +kernel)
set_option maxRecDepth 100000 in
theorem ck_X2_init : ckP m_X2_init := ckP_of (by decide +kernel)
set_option maxRecDepth 100000 in
theorem ck_X2_value : ckP m_X2_value := ckP_of (by decide +kernel)
set_option maxRecDepth 100000 in
theorem ck_X3_init : ckP m_X3_init := ckP_of (by decide +kernel)
set_option maxRecDepth 100000 in
theorem ck_X3_become : ckP m_X3_become := ckP_of (by decide +kernel)
set_option maxRecDepth 100000 in
theorem ck_X3_put : ckP m_X3_put := ckP_of (by decide +kernel)
set_option maxRecDepth 100000 in
theorem ck_X4_init : ckP m_X4_init := ckP_of (by decide +kernel)
set_option maxRecDepth 100000 in
theorem ck_X5_init : ckP m_X5_init := ckP_of (by decide +kernel)
set_option maxRecDepth 100000 in
theorem ck_X5_set : ckP m_X5_set := ckP_of (by decide +kernel)
