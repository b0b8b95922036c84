set_option maxRecDepth 100000 in
theorem ck_X6_added : ckP m_X6_added := ckP_of (by decide +kernel)
set_option maxRecDepth 100000 in
theorem ck_X6_not : ckP m_X6_not := ckP_of (by decide +kernel)
set_option maxRecDepth 100000 in
theorem ck_X6_both : ckP m_X6_both := ckP_of (by decide +kernel)
set_option maxRecDepth 100000 in
theorem ck_X6_either : ckP m_X6_either := ckP_of (by decide +kernel)
set_option maxRecDepth 100000 in
theorem ck_X6_part : ckP m_X6_part := ckP_of (by decide +kernel)
set_option maxRecDepth 100000 in
theorem ck_X6_read : ckP m_X6_read := ckP_of (by decide +kernel)
set_option maxRecDepth 100000 in
theorem ck_X6_text : ckP m_X6_text := ckP_of (by decide +kernel)
set_option maxRecDepth 100000 in
theorem ck_X6_force : ckP m_X6_force := ckP_of (by decide +kernel)
set_option maxRecDepth 100000 in
theorem ck_X6_says : ckP m_X6_says := ckP_of (by decide +kernel)
set_option maxRecDepth 100000 in
theorem ck_X6_paysOf : ckP m_X6_paysOf := ckP_of (by decide +kernel)
set_option maxRecDepth 100000 in
theorem ck_X6_willOf : ckP m_X6_willOf := ckP_of (by decide +kernel)
set_option maxRecDepth 100000 in
theorem ck_X6_breathOf : ckP m_X6_breathOf := ckP_of (by decide +kernel)
set_option maxRecDepth 100000 in
theorem ck_X6_hasBreath : ckP m_X6_hasBreath := ckP_of (by decide +kernel)
set_option maxRecDepth 100000 in
theorem ck_X6_mayDance : ckP m_X6_mayDance := ckP_of (by decide +kernel)
set_option maxRecDepth 100000 in
theorem ck_X6_asks : ckP m_X6_asks := ckP_of (by decide +kernel)
set_option maxRecDepth 100000 in
theorem ck_X6_dances : ckP m_X6_dances := ckP_of (by decide +kernel)
set_option maxRecDepth 100000 in
theorem ck_X6_danceBoth : ckP m_X6_danceBoth := ckP_of (by decide +kernel)
set_option maxRecDepth 100000 in
theorem ck_X6_dance : ckP m_X6_dance := ckP_of (by decide +kernel)
set_option maxRecDepth 100000 in
theorem ck_X6_passes : ckP m_X6_passes := ckP_of (by decide +kernel)
set_option maxRecDepth 100000 in
theorem ck_X6_round : ckP m_X6_round := ckP_of (by decide +kernel)
set_option maxRecDepth 100000 in
theorem ck_X6_night : ckP m_X6_night := ckP_of (by decide +kernel)
set_option maxRecDepth 100000 in
theorem ck_X6_ringOf : ckP m_X6_ringOf := ckP_of (by decide +kernel)
set_option maxRecDepth 100000 in
theorem ck_X6_strike : ckP m_X6_strike := ckP_of (by decide +kernel)
set_option maxRecDepth 100000 in
theorem ck_X6_laysAside : ckP m_X6_laysAside := ckP_of (by decide +kernel)
set_option maxRecDepth 100000 in
theorem ck_X6_laysBack : ckP m_X6_laysBack := ckP_of (by decide +kernel)
set_option maxRecDepth 100000 in
theorem ck_X6_owedSet : ckP m_X6_owedSet := ckP_of (by decide +kernel)
set_option maxRecDepth 100000 in
theorem ck_X6_run : ckP m_X6_run := ckP_of (by decide +kernel)
set_option maxRecDepth 100000 in
theorem ck_X6_both_ : ckP m_X6_both_ := ckP_of (by decide +kernel)
set_option maxRecDepth 100000 in
theorem ck_X6_lesser : ckP m_X6_lesser := ckP_of (by decide +kernel)
set_option maxRecDepth 100000 in
theorem ck_X6_greater : ckP m_X6_greater := ckP_of (by decide +kernel)
set_option maxRecDepth 100000 in
theorem ck_X6_isApart : ckP m_X6_isApart := ckP_of (by decide +kernel)
set_option maxRecDepth 100000 in
theorem ck_X6_isSet : ckP m_X6_isSet := ckP_of (by decide +kernel)
set_option maxRecDepth 100000 in
theorem ck_X6_dancesOf : ckP m_X6_dancesOf := ckP_of (by decide +kernel)
