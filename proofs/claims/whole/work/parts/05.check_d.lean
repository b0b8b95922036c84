set_option maxRecDepth 100000 in
theorem ck_X5_room : ckP m_X5_room := ckP_of (by decide +kernel)
set_option maxRecDepth 100000 in
theorem ck_X5_taken : ckP m_X5_taken := ckP_of (by decide +kernel)
set_option maxRecDepth 100000 in
theorem ck_X5_isSheet : ckP m_X5_isSheet := ckP_of (by decide +kernel)
set_option maxRecDepth 100000 in
theorem ck_X5_isSort : ckP m_X5_isSort := ckP_of (by decide +kernel)
set_option maxRecDepth 100000 in
theorem ck_X5_within : ckP m_X5_within := ckP_of (by decide +kernel)
set_option maxRecDepth 100000 in
theorem ck_X6_in : ckP m_X6_in := ckP_of (by decide +kernel)
set_option maxRecDepth 100000 in
theorem ck_X6_within : ckP m_X6_within := ckP_of (by decide +kernel)
set_option maxRecDepth 100000 in
theorem ck_X6_init : ckP m_X6_init := ckP_of (by decide +kernel)
set_option maxRecDepth 100000 in
theorem ck_X6_spell : ckP m_X6_spell := ckP_of (by decide +kernel)
set_option maxRecDepth 100000 in
theorem ck_X6_isOne : ckP m_X6_isOne := ckP_of (by decide +kernel)
set_option maxRecDepth 100000 in
theorem ck_X6_areTwo : ckP m_X6_areTwo := ckP_of (by decide +kernel)
set_option maxRecDepth 100000 in
theorem ck_X6_isOf : ckP m_X6_isOf := ckP_of (by decide +kernel)
set_option maxRecDepth 100000 in
theorem ck_X6_placeOf : ckP m_X6_placeOf := ckP_of (by decide +kernel)
set_option maxRecDepth 100000 in
theorem ck_X6_mostOf : ckP m_X6_mostOf := ckP_of (by decide +kernel)
set_option maxRecDepth 100000 in
theorem ck_X6_set : ckP m_X6_set := ckP_of (by decide +kernel)
set_option maxRecDepth 100000 in
theorem ck_X6_lays : ckP m_X6_lays := ckP_of (by decide +kernel)
set_option maxRecDepth 100000 in
theorem ck_X6_dancer : ckP m_X6_dancer := ckP_of (by decide +kernel)
set_option maxRecDepth 100000 in
theorem ck_X6_told : ckP m_X6_told := ckP_of (by decide +kernel)
set_option maxRecDepth 100000 in
theorem ck_X6_debtOf : ckP m_X6_debtOf := ckP_of (by decide +kernel)
set_option maxRecDepth 100000 in
theorem ck_X6_owesOf : ckP m_X6_owesOf := ckP_of (by decide +kernel)
set_option maxRecDepth 100000 in
theorem ck_X6_owedTo : ckP m_X6_owedTo := ckP_of (by decide +kernel)
set_option maxRecDepth 100000 in
theorem ck_X6_owedAll : ckP m_X6_owedAll := ckP_of (by decide +kernel)
set_option maxRecDepth 100000 in
theorem ck_X6_feed : ckP m_X6_feed := ckP_of (by decide +kernel)
set_option maxRecDepth 100000 in
theorem ck_X6_byteAt : ckP m_X6_byteAt := ckP_of (by decide +kernel)
set_option maxRecDepth 100000 in
theorem ck_X6_next : ckP m_X6_next := ckP_of (by decide +kernel)
set_option maxRecDepth 100000 in
theorem ck_X6_fail : ckP m_X6_fail := ckP_of (by decide +kernel)
set_option maxRecDepth 100000 in
theorem ck_X6_isLetter : ckP m_X6_isLetter := ckP_of (by decide +kernel)
set_option maxRecDepth 100000 in
theorem ck_X6_isWord : ckP m_X6_isWord := ckP_of (by decide +kernel)
set_option maxRecDepth 100000 in
theorem ck_X6_isSign : ckP m_X6_isSign := ckP_of (by decide +kernel)
set_option maxRecDepth 100000 in
theorem ck_X6_opens : ckP m_X6_opens := ckP_of (by decide +kernel)
set_option maxRecDepth 100000 in
theorem ck_X6_name : ckP m_X6_name := ckP_of (by decide +kernel)
set_option maxRecDepth 100000 in
theorem ck_X6_atom : ckP m_X6_atom := ckP_of (by decide +kernel)
set_option maxRecDepth 100000 in
theorem ck_X6_term : ckP m_X6_term := ckP_of (by decide +kernel)
