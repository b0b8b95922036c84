set_option maxRecDepth 100000 in
theorem ck_L_law_0 : ((List.range 160).all fun i => ckE m_L_law (0 + i)) = true := by decide +kernel
set_option maxRecDepth 100000 in
theorem ck_L_law_1 : ((List.range 160).all fun i => ckE m_L_law (160 + i)) = true := by decide +kernel
set_option maxRecDepth 100000 in
theorem ck_L_law_2 : ((List.range 160).all fun i => ckE m_L_law (320 + i)) = true := by decide +kernel
set_option maxRecDepth 100000 in
theorem ck_L_law_3 : ((List.range 160).all fun i => ckE m_L_law (480 + i)) = true := by decide +kernel
set_option maxRecDepth 100000 in
theorem ck_L_law_4 : ((List.range 160).all fun i => ckE m_L_law (640 + i)) = true := by decide +kernel
set_option maxRecDepth 100000 in
theorem ck_L_law_5 : ((List.range 160).all fun i => ckE m_L_law (800 + i)) = true := by decide +kernel
theorem ck_L_law : ckP m_L_law := by
  intro pc hpc
  have hl : 16 * m_L_law.1.1.length = 832 := by decide +kernel
  rw [hl] at hpc
  rcases Nat.lt_or_ge pc 160 with h0 | h0
  · have := List.all_eq_true.mp ck_L_law_0 (pc - 0) (List.mem_range.mpr (by omega))
    rwa [show 0 + (pc - 0) = pc by omega] at this
  rcases Nat.lt_or_ge pc 320 with h1 | h1
  · have := List.all_eq_true.mp ck_L_law_1 (pc - 160) (List.mem_range.mpr (by omega))
    rwa [show 160 + (pc - 160) = pc by omega] at this
  rcases Nat.lt_or_ge pc 480 with h2 | h2
  · have := List.all_eq_true.mp ck_L_law_2 (pc - 320) (List.mem_range.mpr (by omega))
    rwa [show 320 + (pc - 320) = pc by omega] at this
  rcases Nat.lt_or_ge pc 640 with h3 | h3
  · have := List.all_eq_true.mp ck_L_law_3 (pc - 480) (List.mem_range.mpr (by omega))
    rwa [show 480 + (pc - 480) = pc by omega] at this
  rcases Nat.lt_or_ge pc 800 with h4 | h4
  · have := List.all_eq_true.mp ck_L_law_4 (pc - 640) (List.mem_range.mpr (by omega))
    rwa [show 640 + (pc - 640) = pc by omega] at this
  · have := List.all_eq_true.mp ck_L_law_5 (pc - 800) (List.mem_range.mpr (by omega))
    rwa [show 800 + (pc - 800) = pc by omega] at this

