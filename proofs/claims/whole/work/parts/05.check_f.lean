set_option maxRecDepth 100000 in
theorem ck_X6_bestSet : ckP m_X6_bestSet := ckP_of (by decide +kernel)
set_option maxRecDepth 100000 in
theorem ck_X6_nextRound : ckP m_X6_nextRound := ckP_of (by decide +kernel)
set_option maxRecDepth 100000 in
theorem ck_X6_isPaidBy : ckP m_X6_isPaidBy := ckP_of (by decide +kernel)
set_option maxRecDepth 100000 in
theorem ck_X6_soonest : ckP m_X6_soonest := ckP_of (by decide +kernel)
set_option maxRecDepth 100000 in
theorem ck_X6_leastOwed : ckP m_X6_leastOwed := ckP_of (by decide +kernel)
set_option maxRecDepth 100000 in
theorem ck_X6_ringFrom : ckP m_X6_ringFrom := ckP_of (by decide +kernel)
set_option maxRecDepth 100000 in
theorem ck_X6_longestRing : ckP m_X6_longestRing := ckP_of (by decide +kernel)
set_option maxRecDepth 100000 in
theorem ck_X6_ends : ckP m_X6_ends := ckP_of (by decide +kernel)
set_option maxRecDepth 100000 in
theorem ck_X6_keeper : ckP m_X6_keeper := ckP_of (by decide +kernel)
set_option maxRecDepth 100000 in
theorem ck_X6_best : ckP m_X6_best := ckP_of (by decide +kernel)
set_option maxRecDepth 100000 in
theorem ck_X6_lowest : ckP m_X6_lowest := ckP_of (by decide +kernel)
set_option maxRecDepth 100000 in
theorem ck_X6_share : ckP m_X6_share := ckP_of (by decide +kernel)
set_option maxRecDepth 100000 in
theorem ck_X6_firstOther : ckP m_X6_firstOther := ckP_of (by decide +kernel)
set_option maxRecDepth 100000 in
theorem ck_X6_likeSet : ckP m_X6_likeSet := ckP_of (by decide +kernel)
set_option maxRecDepth 100000 in
theorem ck_X6_tells : ckP m_X6_tells := ckP_of (by decide +kernel)
set_option maxRecDepth 100000 in
theorem ck_X6_film : ckP m_X6_film := ckP_of (by decide +kernel)
set_option maxRecDepth 100000 in
theorem ck_X6_endsDrawn : ckP m_X6_endsDrawn := ckP_of (by decide +kernel)
set_option maxRecDepth 100000 in
theorem ck_X6_drawn : ckP m_X6_drawn := ckP_of (by decide +kernel)
set_option maxRecDepth 100000 in
theorem ck_X6_chance : ckP m_X6_chance := ckP_of (by decide +kernel)
set_option maxRecDepth 100000 in
theorem ck_X6_image : ckP m_X6_image := ckP_of (by decide +kernel)
set_option maxRecDepth 100000 in
theorem ck_X6_back : ckP m_X6_back := ckP_of (by decide +kernel)
set_option maxRecDepth 100000 in
theorem ck_X6_count : ckP m_X6_count := ckP_of (by decide +kernel)
set_option maxRecDepth 100000 in
theorem ck_X6_isSheet : ckP m_X6_isSheet := ckP_of (by decide +kernel)
set_option maxRecDepth 100000 in
theorem ck_X6_sheet : ckP m_X6_sheet := ckP_of (by decide +kernel)
set_option maxRecDepth 100000 in
theorem ck_X6_cell : ckP m_X6_cell := ckP_of (by decide +kernel)
set_option maxRecDepth 100000 in
theorem ck_X6_copy : ckP m_X6_copy := ckP_of (by decide +kernel)
set_option maxRecDepth 100000 in
theorem ck_X6_room : ckP m_X6_room := ckP_of (by decide +kernel)
set_option maxRecDepth 100000 in
theorem ck_X6_over : ckP m_X6_over := ckP_of (by decide +kernel)
set_option maxRecDepth 100000 in
theorem ck_X6_taken : ckP m_X6_taken := ckP_of (by decide +kernel)
