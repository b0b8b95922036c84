/-! SOUNDNESS: the step -/
theorem ftyLe {ci k : Nat} : fty ci k = 0 ∨ fty ci k = 1 ∨ fty ci k = 2 ∨ fty ci k = 3 ∨ fty ci k = 9 := by
  unfold fty
  split
  · exact Or.inl rfl
  · unfold tcd
    split <;> simp
theorem ckFld9 : ((enum fldT 0).all fun q => q.2.all fun e => Nat.ble e.2.2.2.1 8) = true := by decide +kernel
theorem fld9 {own idx ci k ty : Nat} {fin : Bool} (h : fld own idx = some (ci, k, ty, fin)) : ty ≤ 8 := by
  unfold fld at h
  split at h
  · cases h
  · rename_i l hl
    exact Nat.le_of_ble_eq_true (enum_all (f := fun _ _ e => Nat.ble e.2.2.1 8) ckFld9 hl h)
theorem goC_of {Y Z : MT} {call : CT} {P : PT} {n fc fs : Nat} {L : List (Option AV)} {S : St} {as rest : List AV} (h : goC Y call P n L S fc fs Z (some (as, rest))) : catS rest ≤ 8 ∧ (fc ≤ Y.1.2.2.1 → fc + Z.1.2.2.1 ≤ Y.1.2.2.1) ∧ (fs ≤ Y.1.2.2.2.1 → fs + Z.1.2.2.2.1 ≤ Y.1.2.2.2.1) ∧ catS as ≤ Z.2.2.2.1 ∧ ∃ K' : KT, call Z as S K' ∧ ∀ v S', K' v S' → (Z.1.2.2.1 ≠ 0 → fc + Z.1.2.2.1 < 1000 → S'.2.2.2.2 = S.2.2.2.2 + Z.1.2.2.1) ∧ P n L (v.toList ++ rest) S' (fc + Z.1.2.2.1) (fs + Z.1.2.2.2.1) := by
  unfold goC at h
  dsimp only at h
  obtain ⟨hb, h_1⟩ := cond_of h
  simp only [Bool.and_eq_true] at hb
  by_cases hz : (Nat.beq Z.1.2.2.1 0 && Nat.beq Z.1.2.2.2.1 0) = true
  · rw [hz] at h_1
    simp only [Bool.and_eq_true] at hz
    have z1 := Nat.eq_of_beq_eq_true hz.1
    have z2 := Nat.eq_of_beq_eq_true hz.2
    refine ⟨Nat.le_of_ble_eq_true hb.1, fun _ => by omega, fun _ => by omega, Nat.le_of_ble_eq_true hb.2, _, h_1, fun v S' hk => ⟨fun z => absurd z1 z, ?_⟩⟩
    rw [z1, z2]
    exact hk
  · rw [Bool.not_eq_true] at hz
    rw [hz] at h_1
    obtain ⟨g1, g2, h_1⟩ := h_1
    refine ⟨Nat.le_of_ble_eq_true hb.1, fun _ => g1, fun _ => g2, Nat.le_of_ble_eq_true hb.2, _, h_1, fun v S' hk => ⟨fun _ hlt => hk.1 (by omega), hk.2⟩⟩
theorem ckP_none : ckP m_none := fun pc h => absurd h (by
  show ¬ pc < 16 * 0
  omega)
theorem lkP_0 : ∀ q ∈ lnk_0, ckP q.2.2.1 := List.forall_mem_cons.mpr ⟨ckP_none, List.forall_mem_cons.mpr ⟨ckP_none, List.forall_mem_cons.mpr ⟨ck_X0_owes, List.forall_mem_cons.mpr ⟨ck_X0_owedTo, List.forall_mem_cons.mpr ⟨ck_X2_value, List.forall_mem_cons.mpr ⟨ck_X0_value, List.forall_mem_cons.mpr ⟨ck_X0_owing, List.forall_mem_cons.mpr ⟨ck_X0_will, List.forall_mem_cons.mpr ⟨ck_X0_breath, List.forall_mem_cons.mpr ⟨ck_X0_pays, List.forall_mem_cons.mpr ⟨ck_X0_settle, List.forall_mem_cons.mpr ⟨ck_X0_lessen, List.forall_mem_cons.mpr ⟨ckP_none, List.forall_mem_cons.mpr ⟨ck_X0_may, List.forall_mem_cons.mpr ⟨ck_X0_step, List.forall_mem_cons.mpr ⟨ck_X0_danceRound, List.forall_mem_cons.mpr ⟨ckP_none, List.forall_mem_cons.mpr ⟨ck_X0_longest, List.forall_mem_cons.mpr ⟨ck_X0_mayAll, List.forall_mem_cons.mpr ⟨ck_X0_paidBy, List.forall_mem_cons.mpr ⟨ck_X0_firstOtherwise, List.forall_mem_cons.mpr ⟨ck_X5_within, fun _ h => absurd h List.not_mem_nil⟩⟩⟩⟩⟩⟩⟩⟩⟩⟩⟩⟩⟩⟩⟩⟩⟩⟩⟩⟩⟩⟩
theorem lkP_1 : ∀ q ∈ lnk_1, ckP q.2.2.1 := List.forall_mem_cons.mpr ⟨ckP_none, fun _ h => absurd h List.not_mem_nil⟩
theorem lkP_2 : ∀ q ∈ lnk_2, ckP q.2.2.1 := List.forall_mem_cons.mpr ⟨ckP_none, List.forall_mem_cons.mpr ⟨ck_X4_init, fun _ h => absurd h List.not_mem_nil⟩⟩
theorem lkP_3 : ∀ q ∈ lnk_3, ckP q.2.2.1 := List.forall_mem_cons.mpr ⟨ckP_none, fun _ h => absurd h List.not_mem_nil⟩
theorem lkP_4 : ∀ q ∈ lnk_4, ckP q.2.2.1 := List.forall_mem_cons.mpr ⟨ckP_none, fun _ h => absurd h List.not_mem_nil⟩
theorem lkP_5 : ∀ q ∈ lnk_5, ckP q.2.2.1 := List.forall_mem_cons.mpr ⟨ckP_none, List.forall_mem_cons.mpr ⟨ck_X2_init, List.forall_mem_cons.mpr ⟨ck_X0_init, List.forall_mem_cons.mpr ⟨ck_X5_told, List.forall_mem_cons.mpr ⟨ck_X5_debtPlace, List.forall_mem_cons.mpr ⟨ck_X0_join, List.forall_mem_cons.mpr ⟨ck_X5_isDancer, List.forall_mem_cons.mpr ⟨ck_X0_breath, List.forall_mem_cons.mpr ⟨ck_X0_owes, List.forall_mem_cons.mpr ⟨ck_X0_owedTo, List.forall_mem_cons.mpr ⟨ck_X5_isTwo, List.forall_mem_cons.mpr ⟨ck_X0_owing, List.forall_mem_cons.mpr ⟨ck_X0_pays, List.forall_mem_cons.mpr ⟨ck_X0_will, List.forall_mem_cons.mpr ⟨ck_X0_may, List.forall_mem_cons.mpr ⟨ck_X0_danceRound, List.forall_mem_cons.mpr ⟨ck_X0_endNight, List.forall_mem_cons.mpr ⟨ck_X5_readRing, List.forall_mem_cons.mpr ⟨ckP_none, List.forall_mem_cons.mpr ⟨ck_X0_lessen, List.forall_mem_cons.mpr ⟨ck_X5_think, List.forall_mem_cons.mpr ⟨ck_X0_all, List.forall_mem_cons.mpr ⟨ck_X0_stillOwed, List.forall_mem_cons.mpr ⟨ck_X0_takeFrom, List.forall_mem_cons.mpr ⟨ck_X0_weigh, List.forall_mem_cons.mpr ⟨ck_X0_bestSet, List.forall_mem_cons.mpr ⟨ck_X0_paidBy, List.forall_mem_cons.mpr ⟨ck_X5_sitters, List.forall_mem_cons.mpr ⟨ck_X5_soonest, List.forall_mem_cons.mpr ⟨ck_X0_least, List.forall_mem_cons.mpr ⟨ck_X0_ring, List.forall_mem_cons.mpr ⟨ck_X0_ends, List.forall_mem_cons.mpr ⟨ck_X0_keeps, List.forall_mem_cons.mpr ⟨ck_X5_lowest, List.forall_mem_cons.mpr ⟨ck_X5_clears, List.forall_mem_cons.mpr ⟨ck_X0_mostToMeet, List.forall_mem_cons.mpr ⟨ck_X0_mayAll, List.forall_mem_cons.mpr ⟨ck_X0_danceSet, List.forall_mem_cons.mpr ⟨ck_X5_isSheet, List.forall_mem_cons.mpr ⟨ck_X0_firstOtherwise, List.forall_mem_cons.mpr ⟨ck_X5_kindsTold, List.forall_mem_cons.mpr ⟨ck_X5_numbersTold, List.forall_mem_cons.mpr ⟨ck_X5_roundsTold, List.forall_mem_cons.mpr ⟨ck_X5_donesTold, List.forall_mem_cons.mpr ⟨ck_X5_textsTold, List.forall_mem_cons.mpr ⟨ck_X5_dancersTold, List.forall_mem_cons.mpr ⟨ck_X0_paysAs, List.forall_mem_cons.mpr ⟨ck_X3_become, List.forall_mem_cons.mpr ⟨ck_X3_put, List.forall_mem_cons.mpr ⟨ck_X1_init, List.forall_mem_cons.mpr ⟨ck_X3_init, fun _ h => absurd h List.not_mem_nil⟩⟩⟩⟩⟩⟩⟩⟩⟩⟩⟩⟩⟩⟩⟩⟩⟩⟩⟩⟩⟩⟩⟩⟩⟩⟩⟩⟩⟩⟩⟩⟩⟩⟩⟩⟩⟩⟩⟩⟩⟩⟩⟩⟩⟩⟩⟩⟩⟩⟩⟩
theorem lkP_6 : ∀ q ∈ lnk_6, ckP q.2.2.1 := fun _ h => absurd h List.not_mem_nil
theorem lkP_7 : ∀ q ∈ lnk_7, ckP q.2.2.1 := List.forall_mem_cons.mpr ⟨ck_L_cell, List.forall_mem_cons.mpr ⟨ck_X5_init, List.forall_mem_cons.mpr ⟨ck_L_some, List.forall_mem_cons.mpr ⟨ck_X5_dancer, List.forall_mem_cons.mpr ⟨ck_X5_told, List.forall_mem_cons.mpr ⟨ck_X5_set, List.forall_mem_cons.mpr ⟨ck_X5_count, List.forall_mem_cons.mpr ⟨ck_X5_best, List.forall_mem_cons.mpr ⟨ck_X5_asks, List.forall_mem_cons.mpr ⟨ck_X5_share, List.forall_mem_cons.mpr ⟨ck_X5_image, List.forall_mem_cons.mpr ⟨ck_X5_strike, List.forall_mem_cons.mpr ⟨ck_X5_back, List.forall_mem_cons.mpr ⟨ck_J6_bitCount_0f7a4, List.forall_mem_cons.mpr ⟨ckP_none, List.forall_mem_cons.mpr ⟨ck_X5_run, List.forall_mem_cons.mpr ⟨ck_X5_round, List.forall_mem_cons.mpr ⟨ck_X5_night, List.forall_mem_cons.mpr ⟨ck_X5_film, List.forall_mem_cons.mpr ⟨ck_X5_tells, fun _ h => absurd h List.not_mem_nil⟩⟩⟩⟩⟩⟩⟩⟩⟩⟩⟩⟩⟩⟩⟩⟩⟩⟩⟩⟩
theorem lkP {own idx kd na : Nat} {Z : MT} (h : lnk own idx = some (kd, Z, na)) : ckP Z := by
  unfold lnk at h
  split at h
  · cases h
  · rename_i l hl
    have hm := lkp_mem l idx _ h
    match own, hl with
    | 0, hl => cases hl; exact lkP_0 _ hm
    | 1, hl => cases hl; exact lkP_1 _ hm
    | 2, hl => cases hl; exact lkP_2 _ hm
    | 3, hl => cases hl; exact lkP_3 _ hm
    | 4, hl => cases hl; exact lkP_4 _ hm
    | 5, hl => cases hl; exact lkP_5 _ hm
    | 6, hl => cases hl; exact lkP_6 _ hm
    | 7, hl => cases hl; exact lkP_7 _ hm
    | n + 8, hl => simp [lnkT, nth] at hl
theorem ckN0 {own idx kd na : Nat} {Z : MT} (h : lnk own idx = some (kd, Z, na)) (hk : kd = 0 ∨ kd = 1 ∨ kd = 2 ∨ kd = 11 ∨ kd = 12) : ckN Z = true := by
  obtain ⟨k1, -⟩ := lnkC h
  rcases hk with rfl | rfl | rfl | rfl | rfl
  · simp only [ckL, Bool.and_eq_true] at k1
    exact k1.1
  · simp only [ckL, Bool.and_eq_true] at k1
    exact k1.1
  · simp only [ckL, Bool.and_eq_true] at k1
    exact k1.1.1.1
  · simp only [ckL, Bool.and_eq_true] at k1
    exact k1.1.1.1
  · simp only [ckL, Bool.and_eq_true] at k1
    exact k1.1.1.1.1
section SNL
variable {E : Env0} {X : State → Prop} {Y : MT} {d n0 : Nat} {p : Program} {l : Launch} {e : Env} {R : Room} {s : State} {m : MethodId} {args : Array Value} {below : List Frame} {meth : Method} {c : Code} {Q : State → Prop}
variable {pc t fc fs : Nat} {L : List (Option AV)} {st : List AV} {S : St}
theorem s_ret {K : KT} (hR : HRet E Y n0 p l e R s m args below meth c Q K) {i : Instr} (hd : decode Y.2.2.1 pc = .ok (i, 1)) {v : Option AV} (hr : retI i Y.1.2.2.2.2 v) (h : K v S) : PS E Y n0 p l e R s m args below meth c Q pc L v.toList S fc fs :=
  fun H locs ls h1 _ _ h4 h5 h6 h7 h8 _ => hR pc fc fs S H locs ls i v hd hr h h1 (fun u hu => h4 u (by rw [hu]; simp)) h5 h6 h7 h8
def alg (pc : Nat) : List (Int × Int) → List (Int32 × Nat) → Prop
  | [], [] => True
  | a :: l, b :: k => b.1.toInt = a.1 ∧ (pc : Int) + a.2 = (b.2 : Int) ∧ alg pc l k
  | _, _ => False
theorem alg_of {pc : Nat} : ∀ (l : List (Int × Int)) (sw : List (Int32 × Nat)), l.length = sw.length → (∀ (k : Nat) (q : Int32 × Nat) (o : Int × Int), nth sw k = some q → l[k]? = some o → q.1.toInt = o.1 ∧ (pc : Int) + o.2 = (q.2 : Int)) → alg pc l sw
  | [], [], _, _ => trivial
  | [], b :: k, h, _ => by simp at h
  | a :: l, [], h, _ => by simp at h
  | a :: l, b :: k, h, hf => ⟨(hf 0 b a rfl rfl).1, (hf 0 b a rfl rfl).2, alg_of l k (by simpa using h) (fun n q o h1 h2 => hf (n + 1) q o h1 (by simpa using h2))⟩
theorem look_go {pc t : Nat} {x : Int32} {df : Int} {P : Nat → Prop} (ht : (pc : Int) + df = (t : Int)) : ∀ (l : List (Int × Int)) (sw : List (Int32 × Nat)), alg pc l sw → swP x P sw t → ∃ tg : Nat, (pc : Int) + Op.lookupswitch.offset l df x.toInt = (tg : Int) ∧ P tg
  | [], [], _, h => ⟨t, by rw [Op.lookupswitch.offset_nil]; exact ht, h⟩
  | [], b :: k, h, _ => h.elim
  | a :: l, [], h, _ => h.elim
  | a :: l, b :: k, ⟨h1, h2, h3⟩, h => by
    by_cases hx : x = b.1
    · refine ⟨b.2, ?_, h.1 hx⟩
      rw [Op.lookupswitch.offset_cons, if_pos (by rw [hx, h1])]
      exact h2
    · obtain ⟨tg, e1, e2⟩ := look_go ht l k h3 (h.2 hx)
      refine ⟨tg, ?_, e2⟩
      rw [Op.lookupswitch.offset_cons, if_neg (fun z => hx (Int32.toInt_inj.mp (by rw [h1]; exact z.symm)))]
      exact e1
theorem s_look (C : Ctx E X Y d p R s m args meth c) {df : Int} {ps : Array (Int × Int)} {len : Nat} {x0 : Int32} {sw : List (Int32 × Nat)} (hd : decode Y.2.2.1 pc = .ok (.lookupswitch df ps, len)) (hk : ckI (.lookupswitch df ps) pc t x0 sw = true) (h : popI st fun x r => swP x (fun d => PS E Y n0 p l e R s m args below meth c Q d L r S fc fs) sw t) : PS E Y n0 p l e R s m args below meth c Q pc L st S fc fs := by
  obtain ⟨x, r, rfl, h'⟩ := popI_of h
  simp only [ckI, Bool.and_eq_true, decide_eq_true_eq] at hk
  obtain ⟨⟨⟨k1, k2⟩, k3⟩, k4⟩ := hk
  have hal : alg pc ps.toList sw := alg_of _ _ k3 (fun k q o hq ho => by
    have h9 := List.all_eq_true.mp k4 k (List.mem_range.mpr (nth_lt sw k q hq))
    rw [hq, ho] at h9
    simp only [Bool.and_eq_true, decide_eq_true_eq] at h9
    refine ⟨?_, h9.1.1.2⟩
    rw [h9.1.1.1, ofInt_toInt h9.1.2 (by omega)])
  intro H locs ls h1 h2 h3 h4 h5 h6 h7 h8 h9
  obtain ⟨tg, e1, e2⟩ := look_go k1 ps.toList sw hal h'
  exact lv_lookup C.1 C.2.1 hd k2 rfl e1 (e2 H locs ls h1 h2 h3 (lvt h4) h5 h6 h7 h8 h9)
set_option maxHeartbeats 4000000 in
theorem step {call : CT} {K : KT} (C : Ctx E X Y d p R s m args meth c) (hX : Xok E X) (hR : HRet E Y n0 p l e R s m args below meth c Q K) (hC : ∀ {S : St} (Z : MT) (as : List AV) (K' : KT), ckP Z → ckN Z = true → catS as ≤ Z.2.2.2.1 → call Z as S K' → MetC E X l d Z as S K') :
    ∀ pc L st S fc fs, F Y call K (PS E Y n0 p l e R s m args below meth c Q) pc L st S fc fs → PS E Y n0 p l e R s m args below meth c Q pc L st S fc fs := by
  intro pc L st S fc fs h
  unfold F at h
  split at h
  · exact h.elim
  rename_i i n t x0 sw hc
  obtain ⟨hd, hle, hck, hlen, hloc, hpf⟩ := ckM_at C.2.2.2.2.2.1 hc
  cases i
  all_goals first | exact False.elim h | skip
  case iconst z =>
    obtain ⟨hd1, rfl⟩ := dec_of hd hlen rfl (Nat.succ_pos _)
    exact s_iconst C hd1 (of_decide_eq_true hck) h
  case bipush z =>
    obtain ⟨hd1, rfl⟩ := dec_of hd hlen rfl (Nat.succ_pos _)
    exact s_bipush C hd1 (of_decide_eq_true hck) h
  case sipush z =>
    obtain ⟨hd1, rfl⟩ := dec_of hd hlen rfl (Nat.succ_pos _)
    exact s_sipush C hd1 (of_decide_eq_true hck) h
  case lconst z =>
    obtain ⟨hd1, rfl⟩ := dec_of hd hlen rfl (Nat.succ_pos _)
    exact s_lconst C hd1 h
  case aconst_null =>
    obtain ⟨hd1, rfl⟩ := dec_of hd hlen rfl (Nat.succ_pos _)
    exact s_null C hd1 h
  case iload k =>
    obtain ⟨hd1, rfl⟩ := dec_of hd hlen rfl (Nat.succ_pos _)
    exact s_iload C hd1 h
  case iload_n k =>
    obtain ⟨hd1, rfl⟩ := dec_of hd hlen rfl (Nat.succ_pos _)
    exact s_iload_n C hd1 h
  case lload k =>
    obtain ⟨hd1, rfl⟩ := dec_of hd hlen rfl (Nat.succ_pos _)
    exact s_lload C hd1 h
  case lload_n k =>
    obtain ⟨hd1, rfl⟩ := dec_of hd hlen rfl (Nat.succ_pos _)
    exact s_lload_n C hd1 h
  case aload k =>
    obtain ⟨hd1, rfl⟩ := dec_of hd hlen rfl (Nat.succ_pos _)
    exact s_aload C hd1 h
  case aload_n k =>
    obtain ⟨hd1, rfl⟩ := dec_of hd hlen rfl (Nat.succ_pos _)
    exact s_aload_n C hd1 h
  case istore k =>
    obtain ⟨hd1, rfl⟩ := dec_of hd hlen rfl (Nat.succ_pos _)
    exact s_istore C hd1 (Nat.le_of_ble_eq_true hloc) h
  case istore_n k =>
    obtain ⟨hd1, rfl⟩ := dec_of hd hlen rfl (Nat.succ_pos _)
    exact s_istore_n C hd1 (Nat.le_of_ble_eq_true hloc) h
  case lstore k =>
    obtain ⟨hd1, rfl⟩ := dec_of hd hlen rfl (Nat.succ_pos _)
    exact s_lstore C hd1 (Nat.le_of_ble_eq_true hloc) h
  case lstore_n k =>
    obtain ⟨hd1, rfl⟩ := dec_of hd hlen rfl (Nat.succ_pos _)
    exact s_lstore_n C hd1 (Nat.le_of_ble_eq_true hloc) h
  case astore k =>
    obtain ⟨hd1, rfl⟩ := dec_of hd hlen rfl (Nat.succ_pos _)
    exact s_astore C hd1 (Nat.le_of_ble_eq_true hloc) h
  case iinc k z =>
    obtain ⟨hd1, rfl⟩ := dec_of hd hlen rfl (Nat.succ_pos _)
    exact s_iinc C hd1 (of_decide_eq_true hck) (Nat.le_of_ble_eq_true hloc) h
  case iadd =>
    obtain ⟨hd1, rfl⟩ := dec_of hd hlen rfl (Nat.succ_pos _)
    exact s_bin (f := fun x y => x + y) (fun k => lv_iadd C.1 C.2.1 hd1 k) h
  case isub =>
    obtain ⟨hd1, rfl⟩ := dec_of hd hlen rfl (Nat.succ_pos _)
    exact s_bin (f := fun x y => x - y) (fun k => lv_isub C.1 C.2.1 hd1 k) h
  case imul =>
    obtain ⟨hd1, rfl⟩ := dec_of hd hlen rfl (Nat.succ_pos _)
    exact s_bin (f := fun x y => x * y) (fun k => lv_imul C.1 C.2.1 hd1 k) h
  case iand =>
    obtain ⟨hd1, rfl⟩ := dec_of hd hlen rfl (Nat.succ_pos _)
    exact s_bin (f := fun x y => x &&& y) (fun k => lv_iand C.1 C.2.1 hd1 k) h
  case ior =>
    obtain ⟨hd1, rfl⟩ := dec_of hd hlen rfl (Nat.succ_pos _)
    exact s_bin (f := fun x y => x ||| y) (fun k => lv_ior C.1 C.2.1 hd1 k) h
  case ixor =>
    obtain ⟨hd1, rfl⟩ := dec_of hd hlen rfl (Nat.succ_pos _)
    exact s_bin (f := fun x y => x ^^^ y) (fun k => lv_ixor C.1 C.2.1 hd1 k) h
  case idiv =>
    obtain ⟨hd1, rfl⟩ := dec_of hd hlen rfl (Nat.succ_pos _)
    exact s_binG (f := fun x y => x / y) (fun z k => lv_idiv C.1 C.2.1 hd1 z k) h
  case irem =>
    obtain ⟨hd1, rfl⟩ := dec_of hd hlen rfl (Nat.succ_pos _)
    exact s_binG (f := fun x y => x - x / y * y) (fun z k => lv_irem C.1 C.2.1 hd1 z k) h
  case ishl =>
    obtain ⟨hd1, rfl⟩ := dec_of hd hlen rfl (Nat.succ_pos _)
    exact s_bin (f := fun x y => x <<< (y &&& 31)) (fun k => lv_ishl C.1 C.2.1 hd1 k) h
  case ishr =>
    obtain ⟨hd1, rfl⟩ := dec_of hd hlen rfl (Nat.succ_pos _)
    exact s_bin (f := fun x y => x >>> (y &&& 31)) (fun k => lv_ishr C.1 C.2.1 hd1 k) h
  case iushr =>
    obtain ⟨hd1, rfl⟩ := dec_of hd hlen rfl (Nat.succ_pos _)
    exact s_bin (f := fun x y => (x.toUInt32 >>> (y.toUInt32 &&& Int32.toUInt32 31)).toInt32) (fun k => lv_iushr C.1 C.2.1 hd1 rfl k) h
  case ineg =>
    obtain ⟨hd1, rfl⟩ := dec_of hd hlen rfl (Nat.succ_pos _)
    exact s_un (f := fun x => aI (-x)) (fun _ => trivial) (fun k => lv_ineg C.1 C.2.1 hd1 k) h
  case i2l =>
    obtain ⟨hd1, rfl⟩ := dec_of hd hlen rfl (Nat.succ_pos _)
    exact s_un (f := fun x => aL x.toInt64) (fun _ => trivial) (fun k => lv_i2l C.1 C.2.1 hd1 rfl k) h
  case l2i =>
    obtain ⟨hd1, rfl⟩ := dec_of hd hlen rfl (Nat.succ_pos _)
    exact s_l2i C hd1 h
  case i2b =>
    obtain ⟨hd1, rfl⟩ := dec_of hd hlen rfl (Nat.succ_pos _)
    exact s_un (f := fun x => aI x.toInt8.toInt32) (fun _ => trivial) (fun k => lv_i2b C.1 C.2.1 hd1 rfl k) h
  case i2s =>
    obtain ⟨hd1, rfl⟩ := dec_of hd hlen rfl (Nat.succ_pos _)
    exact s_un (f := fun x => aI x.toInt16.toInt32) (fun _ => trivial) (fun k => lv_i2s C.1 C.2.1 hd1 rfl k) h
  case i2c =>
    obtain ⟨hd1, rfl⟩ := dec_of hd hlen rfl (Nat.succ_pos _)
    exact s_un (f := fun x => aI (x.toUInt32 % 65536).toInt32) (fun _ => trivial) (fun k => lv_i2c C.1 C.2.1 hd1 rfl k) h
  case ladd =>
    obtain ⟨hd1, rfl⟩ := dec_of hd hlen rfl (Nat.succ_pos _)
    exact s_binL (f := fun x y => x + y) (fun k => lv_ladd C.1 C.2.1 hd1 k) h
  case lsub =>
    obtain ⟨hd1, rfl⟩ := dec_of hd hlen rfl (Nat.succ_pos _)
    exact s_binL (f := fun x y => x - y) (fun k => lv_lsub C.1 C.2.1 hd1 k) h
  case lmul =>
    obtain ⟨hd1, rfl⟩ := dec_of hd hlen rfl (Nat.succ_pos _)
    exact s_binL (f := fun x y => x * y) (fun k => lv_lmul C.1 C.2.1 hd1 k) h
  case ldiv =>
    obtain ⟨hd1, rfl⟩ := dec_of hd hlen rfl (Nat.succ_pos _)
    exact s_binLG (f := fun x y => x / y) (fun z k => lv_ldiv C.1 C.2.1 hd1 z k) h
  case lrem =>
    obtain ⟨hd1, rfl⟩ := dec_of hd hlen rfl (Nat.succ_pos _)
    exact s_binLG (f := fun x y => x - x / y * y) (fun z k => lv_lrem C.1 C.2.1 hd1 z k) h
  case lcmp =>
    obtain ⟨hd1, rfl⟩ := dec_of hd hlen rfl (Nat.succ_pos _)
    exact s_lcmp C hd1 h
  case dup =>
    obtain ⟨hd1, rfl⟩ := dec_of hd hlen rfl (Nat.succ_pos _)
    exact s_dup C hd1 h
  case dup2 =>
    obtain ⟨hd1, rfl⟩ := dec_of hd hlen rfl (Nat.succ_pos _)
    exact s_dup2 C hd1 h
  case pop =>
    obtain ⟨hd1, rfl⟩ := dec_of hd hlen rfl (Nat.succ_pos _)
    exact s_pop C hd1 h
  case goto o =>
    obtain ⟨hd1, rfl⟩ := dec_of hd hlen rfl (Nat.succ_pos _)
    exact s_goto C hd1 (of_decide_eq_true hck) h
  case ifCond cc o =>
    obtain ⟨hd1, rfl⟩ := dec_of hd hlen rfl (Nat.succ_pos _)
    cases cc
    case eq => exact s_br1 (u := fun x => x = 0) (w := fun x => ¬ x = 0) (fun a b => lv_if_eq C.1 C.2.1 hd1 (of_decide_eq_true hck) a b) h
    case ne => exact s_br1 (u := fun x => ¬ x = 0) (w := fun x => x = 0) (fun a b => lv_if_ne C.1 C.2.1 hd1 (of_decide_eq_true hck) a b) h
    case lt => exact s_br1 (u := fun x => x < 0) (w := fun x => ¬ x < 0) (fun a b => lv_if_lt C.1 C.2.1 hd1 (of_decide_eq_true hck) a b) h
    case ge => exact s_br1 (u := fun x => 0 ≤ x) (w := fun x => ¬ 0 ≤ x) (fun a b => lv_if_ge C.1 C.2.1 hd1 (of_decide_eq_true hck) a b) h
    case gt => exact s_br1 (u := fun x => 0 < x) (w := fun x => ¬ 0 < x) (fun a b => lv_if_gt C.1 C.2.1 hd1 (of_decide_eq_true hck) a b) h
    case le => exact s_br1 (u := fun x => x ≤ 0) (w := fun x => ¬ x ≤ 0) (fun a b => lv_if_le C.1 C.2.1 hd1 (of_decide_eq_true hck) a b) h
  case if_icmp cc o =>
    obtain ⟨hd1, rfl⟩ := dec_of hd hlen rfl (Nat.succ_pos _)
    cases cc
    case eq => exact s_br2 (u := fun x y => x = y) (w := fun x y => ¬ x = y) (fun a b => lv_icmp_eq C.1 C.2.1 hd1 (of_decide_eq_true hck) a b) h
    case ne => exact s_br2 (u := fun x y => ¬ x = y) (w := fun x y => x = y) (fun a b => lv_icmp_ne C.1 C.2.1 hd1 (of_decide_eq_true hck) a b) h
    case lt => exact s_br2 (u := fun x y => x < y) (w := fun x y => ¬ x < y) (fun a b => lv_icmp_lt C.1 C.2.1 hd1 (of_decide_eq_true hck) a b) h
    case ge => exact s_br2 (u := fun x y => y ≤ x) (w := fun x y => ¬ y ≤ x) (fun a b => lv_icmp_ge C.1 C.2.1 hd1 (of_decide_eq_true hck) a b) h
    case gt => exact s_br2 (u := fun x y => y < x) (w := fun x y => ¬ y < x) (fun a b => lv_icmp_gt C.1 C.2.1 hd1 (of_decide_eq_true hck) a b) h
    case le => exact s_br2 (u := fun x y => x ≤ y) (w := fun x y => ¬ x ≤ y) (fun a b => lv_icmp_le C.1 C.2.1 hd1 (of_decide_eq_true hck) a b) h
  case ldc_w ix =>
    obtain ⟨hd1, rfl⟩ := dec_of hd hlen rfl (Nat.succ_pos _)
    simp only [G] at h
    split at h
    · rename_i v hv
      exact s_ldcw C hd1 hv h
    · exact h.elim
  case ldc2_w ix =>
    obtain ⟨hd1, rfl⟩ := dec_of hd hlen rfl (Nat.succ_pos _)
    simp only [G] at h
    split at h
    · rename_i v hv
      exact s_ldc2 C hd1 hv h
    · exact h.elim
  case astore_n k =>
    obtain ⟨hd1, rfl⟩ := dec_of hd hlen rfl (Nat.succ_pos _)
    simp only [G] at h
    split at h
    · exact s_astore_n C hd1 (Nat.le_of_ble_eq_true hloc) h
    · exact h.elim
  case ifnonnull o =>
    obtain ⟨hd1, rfl⟩ := dec_of hd hlen rfl (Nat.succ_pos _)
    simp only [G] at h
    split at h
    · exact s_ifnnN C hd1 h
    · exact s_ifnn C hd1 (of_decide_eq_true hck) h
    · exact h.elim
  case tableswitch df lo hi offs => exact s_table C hd hck h
  case lookupswitch df ps => exact s_look C hd hck h
  case getfield ix =>
    obtain ⟨hd1, rfl⟩ := dec_of hd hlen rfl (Nat.succ_pos _)
    simp only [G] at h
    split at h
    · exact h.elim
    · rename_i ci k ty fin hf
      obtain ⟨j, g, r, rfl, h_1⟩ := popR_of h
      obtain ⟨hj, h_2⟩ := cond_of h_1
      have hj := Nat.eq_of_beq_eq_true hj
      split at h_2
      · exact s_getf C hd1 hf hj (v := aL S.2.1) (fun _ _ _ _ _ _ => trivial) (fun z => by rw [← hj] at z; simp [fvl, z, cv]) h_2
      · obtain ⟨hn, h_2⟩ := h_2
        refine s_getf C hd1 hf hj (v := Sum.inr (Sum.inr (some (frf j g k)))) (fun H h1 h2 h3 h4 h5 => ?_) (fun z => by rw [← hj] at z; exact cv_frf z hn) h_2
        subst hj
        have hc : clsP j < 7 := by
          obtain ⟨q, hq, -⟩ := fldQ hf
          exact (clsF hq).2.2.2.2.2.1
        exact h5.2.2.2.2.2.1 j g k h1 h2 hc h4 h3 hn
      · rename_i n1 n2
        exact s_getf C hd1 hf hj (v := aI (S.1 j g k)) (fun _ _ _ _ _ _ => trivial) (fun z => by
          rw [← hj] at z
          unfold fvl
          split
          · rename_i y; exact absurd (z.symm.trans y) n1
          · rename_i y; exact absurd (z.symm.trans y) n2
          · rfl) h_2
  case putfield ix =>
    obtain ⟨hd1, rfl⟩ := dec_of hd hlen rfl (Nat.succ_pos _)
    simp only [G] at h
    split at h
    · exact h.elim
    · rename_i ci k ty fin hf
      obtain ⟨hfc, h_1⟩ := few_of h
      have hin : fin = true → Y.2.1.name = "<init>" ∧ ci = Y.1.2.1 := by
        intro z
        subst z
        simp only [pfI, hf, Bool.and_eq_true, decide_eq_true_eq] at hpf
        exact ⟨hpf.1, Nat.eq_of_beq_eq_true hpf.2⟩
      split at h_1
      · exact h_1.elim
      · obtain ⟨a, b, r, rfl, h_5⟩ := popR_of h_1
        obtain ⟨j, g, r, rfl, h_6⟩ := popR_of h_5
        obtain ⟨hj, h_7⟩ := cond_of h_6
        exact s_put2 C hd1 hin hf (Nat.eq_of_beq_eq_true hj) h_7.1 hfc h_7.2
      · obtain ⟨x, r, rfl, h_8⟩ := popI_of h_1
        obtain ⟨j, g, r, rfl, h_9⟩ := popR_of h_8
        obtain ⟨hj, h_10⟩ := cond_of h_9
        exact s_put0 C (Or.inr rfl) hd1 hin hf (fun _ => h_10.1) (Nat.eq_of_beq_eq_true hj) hfc h_10.2
      · rename_i n1 n2 n3
        obtain ⟨x, r, rfl, h_11⟩ := popI_of h_1
        obtain ⟨j, g, r, rfl, h_12⟩ := popR_of h_11
        obtain ⟨hj, h_13⟩ := cond_of h_12
        have hty : ty = 0 := by
          obtain ⟨q, hq, hk, hty, -⟩ := fldQ hf
          have := ftyLe (ci := ci) (k := k)
          rw [hty] at this
          rcases this with z | z | z | z | z
          · exact z
          · exact absurd z n1
          · exact absurd z n2
          · exact absurd z n3
          · exfalso
            have hno := fld9 hf
            omega
        exact s_put0 C (Or.inl hty) hd1 hin hf (fun z => by omega) (Nat.eq_of_beq_eq_true hj) hfc h_13
  case getstatic ix =>
    obtain ⟨hd1, rfl⟩ := dec_of hd hlen rfl (Nat.succ_pos _)
    simp only [G] at h
    split at h
    · exact h.elim
    · rename_i j hj
      exact s_gets C hd1 hj h
  case iaload =>
    obtain ⟨hd1, rfl⟩ := dec_of hd hlen rfl (Nat.succ_pos _)
    obtain ⟨i, r, rfl, h_1⟩ := popI_of h
    obtain ⟨j, g, r, rfl, h_2⟩ := popR_of h_1
    obtain ⟨hj, k, hk, h_3⟩ := cond_of h_2
    simp only [Bool.or_eq_true] at hj
    exact s_iald C hd1 (hj.imp Nat.eq_of_beq_eq_true Nat.eq_of_beq_eq_true) hk h_3
  case aaload =>
    obtain ⟨hd1, rfl⟩ := dec_of hd hlen rfl (Nat.succ_pos _)
    obtain ⟨i, r, rfl, h_1⟩ := popI_of h
    obtain ⟨j, g, r, rfl, h_2⟩ := popR_of h_1
    obtain ⟨hj, k, hk, hn, h_3⟩ := cond_of h_2
    exact s_aald C hd1 (Nat.le_of_ble_eq_true hj) hk hn h_3
  case iastore =>
    obtain ⟨hd1, rfl⟩ := dec_of hd hlen rfl (Nat.succ_pos _)
    obtain ⟨hfc, h_1⟩ := few_of h
    obtain ⟨x, r, rfl, h_2⟩ := popI_of h_1
    obtain ⟨i, r, rfl, h_3⟩ := popI_of h_2
    obtain ⟨j, g, r, rfl, h_4⟩ := popR_of h_3
    obtain ⟨hj, k, hk, h_5⟩ := cond_of h_4
    exact s_iast C hd1 hfc (Nat.eq_of_beq_eq_true hj) hk h_5
  case aastore =>
    obtain ⟨hd1, rfl⟩ := dec_of hd hlen rfl (Nat.succ_pos _)
    obtain ⟨hfc, h_1⟩ := few_of h
    obtain ⟨a, b, r, rfl, h_2⟩ := popR_of h_1
    obtain ⟨i, r, rfl, h_3⟩ := popI_of h_2
    obtain ⟨j, g, r, rfl, h_4⟩ := popR_of h_3
    obtain ⟨hj, k, hk, he, h_5⟩ := cond_of h_4
    have hs := s_aast C hd1 hfc (Nat.le_of_ble_eq_true hj) hk h_5
    rw [he] at hs
    exact hs
  case arraylength =>
    obtain ⟨hd1, rfl⟩ := dec_of hd hlen rfl (Nat.succ_pos _)
    simp only [G] at h
    obtain ⟨j, g, r, rfl, h_1⟩ := popR_of h
    obtain ⟨hj, h_2⟩ := cond_of h_1
    simp only [Bool.or_eq_true] at hj
    exact s_alen C hd1 (hj.imp Nat.le_of_ble_eq_true Nat.le_of_ble_eq_true) h_2
  case newarray ty =>
    obtain ⟨hd1, rfl⟩ := dec_of hd hlen rfl (Nat.succ_pos _)
    cases ty
    case int =>
      obtain ⟨hfc, h_1⟩ := few_of h
      obtain ⟨x, r, rfl, j, g, k, rfl, h1, h2, h3, h4, h5, h6, h7, h_2⟩ := popI_of h_1
      exact s_newI C hd1 hfc h1 h2 h3 h4 h5 h6 h7 h_2
    all_goals exact False.elim h
  case anewarray ix =>
    obtain ⟨hd1, rfl⟩ := dec_of hd hlen rfl (Nat.succ_pos _)
    simp only [G] at h
    split at h
    · exact h.elim
    · rename_i ci hci
      obtain ⟨hfc, h_1⟩ := few_of h
      obtain ⟨x, r, rfl, j, g, k, rfl, h1, h2, h4, h5, h6, h7, h_2⟩ := popI_of h_1
      exact s_newR C hd1 hci hfc h1 h2 h4 h5 h6 h7 h_2
  case new ix =>
    obtain ⟨hd1, rfl⟩ := dec_of hd hlen rfl (Nat.succ_pos _)
    simp only [G] at h
    split at h
    · exact h.elim
    · rename_i ci hci
      split at h
      · exact h.elim
      · rename_i q hq
        obtain ⟨hfc, j, g, h1, h2, h3, h4, h5, h_1⟩ := few_of h
        exact s_new C hd1 hci hq hfc h1 h2 h3 h4 h5 h_1
  case invokevirtual ix =>
    obtain ⟨hd1, rfl⟩ := dec_of hd hlen rfl (Nat.succ_pos _)
    simp only [G] at h
    split at h
    · exact h.elim
    · rename_i kd Z na hl
      split at h
      · obtain ⟨hr, h_1⟩ := cond_of h
        cases hp : popN (na + 1) st [] with
        | none => rw [hp] at h_1; exact h_1.elim
        | some q =>
          obtain ⟨as, rest⟩ := q
          rw [hp] at h_1 hr
          obtain ⟨g1, g2, g3, g4, K', hcall, hK⟩ := goC_of h_1
          exact s_goV C hX hd1 hl hp hr g1 g2 g3 (hC Z as K' (lkP hl) (ckN0 hl (Or.inl rfl)) g4 hcall) hK
      · exact h.elim
  case invokestatic ix =>
    obtain ⟨hd1, rfl⟩ := dec_of hd hlen rfl (Nat.succ_pos _)
    simp only [G] at h
    split at h
    · exact h.elim
    · rename_i kd Z na hl
      split at h
      · cases hp : popN na st [] with
        | none => rw [hp] at h; exact h.elim
        | some q =>
          obtain ⟨as, rest⟩ := q
          rw [hp] at h
          obtain ⟨g1, g2, g3, g4, K', hcall, hK⟩ := goC_of h
          exact s_goS C hX hd1 hl hp g1 g2 g3 (hC Z as K' (lkP hl) (ckN0 hl (Or.inr (Or.inl rfl))) g4 hcall) hK
      · cases hp : popN na st [] with
        | none => rw [hp] at h; exact h.elim
        | some q =>
          obtain ⟨as, rest⟩ := q
          rw [hp] at h
          obtain ⟨g1, g2, g3, g4, K', hcall, hK⟩ := goC_of h
          exact s_goN C hX hd1 hl hp g1 g2 g3 (hC Z as K' (lkP hl) (ckN0 hl (Or.inr (Or.inr (Or.inr (Or.inl rfl))))) g4 hcall) hK
      · obtain ⟨y, r, rfl, h_1⟩ := popI_of h
        obtain ⟨x, r, rfl, h_2⟩ := popI_of h_1
        obtain ⟨hb, h_3⟩ := cond_of h_2
        exact s_min C hd1 hl (Nat.le_of_ble_eq_true hb) h_3
      · obtain ⟨y, r, rfl, h_4⟩ := popI_of h
        obtain ⟨x, r, rfl, h_5⟩ := popI_of h_4
        obtain ⟨hb, h_6⟩ := cond_of h_5
        exact s_max C hd1 hl (Nat.le_of_ble_eq_true hb) h_6
      · obtain ⟨hfc, h_7⟩ := few_of h
        obtain ⟨z, r, rfl, h_8⟩ := popI_of h_7
        obtain ⟨dp, r, rfl, h_9⟩ := popI_of h_8
        obtain ⟨a, b, r, rfl, h_10⟩ := popR_of h_9
        obtain ⟨sp, r, rfl, h_11⟩ := popI_of h_10
        obtain ⟨j, g, r, rfl, h_12⟩ := popR_of h_11
        obtain ⟨hb, ks, kd', kn, rfl, rfl, rfl, h1, h2, h3, h_13⟩ := cond_of h_12
        simp only [Bool.and_eq_true] at hb
        exact s_copy C hfc hd1 hl (Nat.le_of_ble_eq_true hb.2) (Nat.eq_of_beq_eq_true hb.1.2) (Nat.eq_of_beq_eq_true hb.1.1) h1 h2 h3 h_13
      · exact h.elim
  case invokespecial ix =>
    obtain ⟨hd1, rfl⟩ := dec_of hd hlen rfl (Nat.succ_pos _)
    simp only [G] at h
    split at h
    · exact h.elim
    · rename_i kd Z na hl
      split at h
      · obtain ⟨hr, h_1⟩ := cond_of h
        cases hp : popN (na + 1) st [] with
        | none => rw [hp] at h_1; exact h_1.elim
        | some q =>
          obtain ⟨as, rest⟩ := q
          rw [hp] at h_1 hr
          obtain ⟨g1, g2, g3, g4, K', hcall, hK⟩ := goC_of h_1
          exact s_goI C hX (Or.inl rfl) hd1 hl hp hr g1 g2 g3 (hC Z as K' (lkP hl) (ckN0 hl (Or.inr (Or.inr (Or.inl rfl)))) g4 hcall) hK
      · obtain ⟨hr, h_2⟩ := cond_of h
        cases hp : popN (na + 1) st [] with
        | none => rw [hp] at h_2; exact h_2.elim
        | some q =>
          obtain ⟨as, rest⟩ := q
          rw [hp] at h_2 hr
          obtain ⟨g1, g2, g3, g4, K', hcall, hK⟩ := goC_of h_2
          exact s_goI C hX (Or.inr rfl) hd1 hl hp hr g1 g2 g3 (hC Z as K' (lkP hl) (ckN0 hl (Or.inr (Or.inr (Or.inr (Or.inr rfl))))) g4 hcall) hK
      · obtain ⟨j, g, r, rfl, h_3⟩ := popR_of h
        obtain ⟨hb, h_4⟩ := cond_of h_3
        exact s_obj C hd1 hl (Nat.le_of_ble_eq_true hb) h_4
      · exact h.elim
  case ireturn =>
    obtain ⟨hd1, rfl⟩ := dec_of hd hlen rfl (Nat.succ_pos _)
    simp only [G] at h
    split at h
    · split at h
      · rename_i x rk hrk
        exact s_ret hR hd1 (v := some (aI x)) (Or.inl ⟨rfl, x, rfl, Or.inl hrk⟩) h
      · rename_i x rk hrk
        exact s_ret hR hd1 (v := some (aI x)) (Or.inl ⟨rfl, x, rfl, Or.inr ⟨hrk, h.1⟩⟩) h.2
      · exact h.elim
    · exact h.elim
  case lreturn =>
    obtain ⟨hd1, rfl⟩ := dec_of hd hlen rfl (Nat.succ_pos _)
    simp only [G] at h
    split at h
    · split at h
      · rename_i x rk hrk
        exact s_ret hR hd1 (v := some (aL x)) (Or.inr (Or.inl ⟨rfl, hrk, x, rfl⟩)) h
      · exact h.elim
    · exact h.elim
  case areturn =>
    obtain ⟨hd1, rfl⟩ := dec_of hd hlen rfl (Nat.succ_pos _)
    simp only [G] at h
    split at h
    · split at h
      · rename_i q rk hrk
        exact s_ret hR hd1 (v := some (Sum.inr (Sum.inr q))) (Or.inr (Or.inr (Or.inl ⟨rfl, hrk, q, rfl⟩))) h
      · exact h.elim
    · exact h.elim
  case return_ =>
    obtain ⟨hd1, rfl⟩ := dec_of hd hlen rfl (Nat.succ_pos _)
    simp only [G] at h
    split at h
    · split at h
      · rename_i rk hrk
        exact s_ret hR hd1 (v := none) (Or.inr (Or.inr (Or.inr ⟨rfl, hrk, rfl⟩))) h
      · exact h.elim
    · exact h.elim
end SNL
