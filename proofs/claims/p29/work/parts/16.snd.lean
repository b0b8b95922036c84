/-! SOUNDNESS: one step of AM, whatever the instruction -/
def retI (i : Instr) (rk : Nat) (v : Option AV) : Prop :=
  (i = .ireturn ∧ ∃ x, v = some (aI x) ∧ (rk = 1 ∨ (rk = 4 ∧ (x = 0 ∨ x = 1)))) ∨ (i = .lreturn ∧ rk = 2 ∧ ∃ x, v = some (aL x)) ∨ (i = .areturn ∧ rk = 3 ∧ ∃ q, v = some (Sum.inr (Sum.inr q))) ∨ (i = .return_ ∧ rk = 0 ∧ v = none)
def HRet (E : Env0) (Y : MT) (n0 : Nat) (p : Program) (l : Launch) (e : Env) (R : Room) (s : State) (m : MethodId) (args : Array Value) (below : List Frame) (meth : Method) (c : Code) (Q : State → Prop) (K : KT) : Prop :=
  ∀ (pc fc fs : Nat) (S : St) (H : Heap) (locs : List Loc) (ls : Array Slot) (i : Instr) (v : Option AV), decode Y.2.2.1 pc = .ok (i, 1) → retI i Y.1.2.2.2.2 v → K v S → Rep E S H → (∀ u, v = some u → lvA S u) → va_S (baseA E) s.heap H locs → n0 ≤ S.2.2.2.2 → fc ≤ Y.1.2.2.1 → fs ≤ Y.1.2.2.2.1 → W p l e R s m args below meth c H locs fc fs Q (F0 m pc ls (v.toList.map (cv E)))
theorem dec_of {Y : MT} {pc n k : Nat} {i : Instr} (hd : decode Y.2.2.1 pc = .ok (i, n - pc)) (hl : lenI i = 0 ∨ n = pc + lenI i) (hk : lenI i = k) (h0 : 0 < k) : decode Y.2.2.1 pc = .ok (i, k) ∧ n = pc + k := by
  rcases hl with z | z
  · omega
  · rw [hk] at z
    subst z
    rw [Nat.add_sub_cancel_left] at hd
    exact ⟨hd, rfl⟩
theorem few_of {fc : Nat} {h : Prop} (z : few fc h) : fc < 1000 ∧ h := by
  unfold few at z
  by_cases hb : Nat.blt fc 1000 = true
  · rw [hb] at z
    exact ⟨by simpa [Nat.blt_eq] using hb, z⟩
  · rw [Bool.not_eq_true] at hb
    rw [hb] at z
    exact z.elim
theorem cond_of {b : Bool} {h : Prop} (z : cond b h False) : b = true ∧ h := by
  cases b with
  | true => exact ⟨rfl, z⟩
  | false => exact z.elim
theorem long6 {ci k : Nat} (h : fty ci k = 1) : ci = 6 := by
  unfold fty at h
  match ci, h with
  | 0, h =>
    simp only [ftT, nth] at h
    unfold tyX0 at h
    split at h <;> simp [tcd] at h
  | 1, h =>
    simp only [ftT, nth] at h
    unfold tyX1 at h
    split at h <;> simp [tcd] at h
  | 2, h =>
    simp only [ftT, nth] at h
    unfold tyX2 at h
    split at h <;> simp [tcd] at h
  | 3, h =>
    simp only [ftT, nth] at h
    unfold tyX3 at h
    split at h <;> simp [tcd] at h
  | 4, h =>
    simp only [ftT, nth] at h
    unfold tyX4 at h
    split at h <;> simp [tcd] at h
  | 5, h =>
    simp only [ftT, nth] at h
    unfold tyX5 at h
    split at h <;> simp [tcd] at h
  | n + 6, h => simp [ftT, nth] at h
section SNK
variable {E : Env0} {X : State → Prop} {Y : MT} {d n0 : Nat} {p : Program} {l : Launch} {e : Env} {R : Room} {s : State} {m : MethodId} {args : Array Value} {below : List Frame} {meth : Method} {c : Code} {Q : State → Prop}
variable {pc t fc fs : Nat} {L : List (Option AV)} {st : List AV} {S : St}
theorem s_put0 (C : Ctx E X Y d p R s m args meth c) {ix ci k ty : Nat} {fin : Bool} (hty : ty = 0 ∨ ty = 3) (hd : decode Y.2.2.1 pc = .ok (.putfield ix, 3)) (hin : fin = true → Y.2.1.name = "<init>" ∧ ci = Y.1.2.1) (hf : fld Y.1.2.1 ix = some (ci, k, ty, fin)) {j g : Nat} {x : Int32} {r : List AV} (hx : ty = 3 → x = 0 ∨ x = 1) (hj : clsP j = ci) (hfc : fc < 1000)
    (h : PS E Y n0 p l e R s m args below meth c Q (pc + 3) L r (ivSet S j g k x) fc fs) : PS E Y n0 p l e R s m args below meth c Q pc L (aI x :: aR j g :: r) S fc fs := by
  have hci : ci < 7 := by
    obtain ⟨q, hq, -⟩ := fldQ hf
    exact (clsF hq).2.2.2.2.2.1
  have hj6 : j < 60 := cls_lt (by rw [hj]; exact hci)
  refine s_putf C hd hin hf hj (v := aI x) (S' := ivSet S j g k x) (fun ty0 h0 => ?_) rfl rfl (iv_st hj6) (fun _ k' hk' _ => el_iv (fun z => hk' (by rw [← numId k', z]))) (fun hft z => ?_) (fun _ _ a b z hz => Or.inl hz) hfc h
  · rcases hty with rfl | rfl
    · cases ty0 <;> first | exact ⟨rfl, rfl⟩ | (simp [tcd] at h0; done)
    · have hx := hx rfl
      have hb : ty0 = .boolean := by cases ty0 <;> simp [tcd] at h0 ⊢
      subst hb
      rcases hx with rfl | rfl
      · exact ⟨show narrow .boolean (.int 0) = .int 0 by decide, show fits .boolean (.int 0) = true by decide⟩
      · exact ⟨show narrow .boolean (.int 1) = .int 1 by decide, show fits .boolean (.int 1) = true by decide⟩
  · subst hj
    by_cases hz : z = k
    · subst hz
      rw [if_pos rfl]
      unfold fvl
      split
      · rename_i y; omega
      · rename_i y; omega
      · simp [ivSet, up3, cv]
    · rw [if_neg hz]
      unfold fvl
      split
      · rfl
      · rfl
      · simp [ivSet, up3, hz]
theorem s_put2 (C : Ctx E X Y d p R s m args meth c) {ix ci k : Nat} {fin : Bool} (hd : decode Y.2.2.1 pc = .ok (.putfield ix, 3)) (hin : fin = true → Y.2.1.name = "<init>" ∧ ci = Y.1.2.1) (hf : fld Y.1.2.1 ix = some (ci, k, 2, fin)) {j g a b : Nat} {r : List AV} (hj : clsP j = ci) (hfr : frf j g k = (a, b)) (hfc : fc < 1000)
    (h : PS E Y n0 p l e R s m args below meth c Q (pc + 3) L r (nnSet S j g k) fc fs) : PS E Y n0 p l e R s m args below meth c Q pc L (aR a b :: aR j g :: r) S fc fs := by
  refine s_putf C hd hin hf hj (v := aR a b) (S' := nnSet S j g k) (fun ty0 h0 => ?_) rfl rfl (fun _ _ _ => rfl) (fun _ k' hk' _ => el_nn (fun z => hk' (by rw [← numId k', z]))) (fun hft z => ?_) (fun hlv hft a' b' z hz => ?_) hfc h
  · cases ty0 <;> first | exact ⟨rfl, rfl⟩ | (simp [tcd] at h0; done)
  · subst hj
    by_cases hz : z = k
    · subst hz
      rw [if_pos rfl]
      unfold fvl
      rw [hft]
      simp [nnSet, up3, cv, hfr]
    · rw [if_neg hz]
      unfold fvl
      split
      · rfl
      · simp [nnSet, up3, hz]
      · rfl
  · simp only [nnSet, up3] at hz
    split at hz
    · rename_i hy
      obtain ⟨rfl, rfl, rfl⟩ := hy
      refine Or.inr ⟨rfl, rfl, fun _ _ => by rw [hfr]; exact hlv, fun hr => ?_⟩
      obtain ⟨q, hq, -⟩ := fldQ hf
      exact absurd (by rw [hj]; exact (clsF hq).2.2.2.2.2.1) (rfk_cls hr).1
    · exact Or.inl hz
theorem sflW {own idx j : Nat} (h : sfl own idx = some j) : ckS own idx j = true ∧ ∀ w ∈ sfwords own idx j, w ∈ ALLW := by
  unfold sfl at h
  split at h
  · cases h
  · rename_i l hl
    exact ⟨enum_all (f := ckS) ckS_ok hl h, ALLW_of (fun w hw => sfW_ok w (allT_in (f := sfwords) hl h hw))⟩
theorem s_gets (C : Ctx E X Y d p R s m args meth c) {ix j : Nat} (hd : decode Y.2.2.1 pc = .ok (.getstatic ix, 3)) (hf : sfl Y.1.2.1 ix = some j) (h : PS E Y n0 p l e R s m args below meth c Q (pc + 3) L (aR j 0 :: st) S fc fs) : PS E Y n0 p l e R s m args below meth c Q pc L st S fc fs := by
  obtain ⟨h1, h2⟩ := sflW hf
  simp only [ckS, Bool.and_eq_true, Bool.or_eq_true] at h1
  obtain ⟨⟨b1, b2⟩, b3⟩ := h1
  have b1 := Nat.le_of_ble_eq_true b1
  have b2 := Nat.le_of_ble_eq_true b2
  have hst := C.2.2.2.2.2.2.1
  have hZ := hst.2.1 j b1 b2
  have ha : cv E (aR j 0) = .ref (E.2.2.2.1 j 0) := by simp [cv, adr, show ¬ j < 60 by omega]
  have hlv : lvA S (aR j 0) := Or.inr (Or.inl ⟨by omega, by omega, rfl⟩)
  intro H locs ls h1 h2' h3 h4 h5 h6 h7 h8 h9
  have hr := h H locs ls h1 h2' h3 (lv1 hlv h4) h5 h6 h7 h8 h9
  rw [List.map_cons, ha] at hr
  rcases b3 with b3 | ⟨b3, b4⟩
  · have ho := Nat.eq_of_beq_eq_true b3
    have hw := h2
    simp only [sfwords, ho, if_true] at hw
    exact va_gets (C := RX5) (ref := RX5) C.1 C.2.1 hZ h5 C.2.2.2.1 (by rw [ho]; exact C.2.2.2.2.1 _ (hw _ (List.mem_singleton.mpr rfl))) (fun _ hx => hx) hd hr
  · have ho := Nat.eq_of_beq_eq_true b3
    have hown : s.vm.findClass RX0 = some m.cls := by
      have := C.2.2.2.1
      rw [ho] at this
      exact this
    rcases b4 with (⟨c1, c2⟩ | ⟨c1, c2⟩) | ⟨c1, c2⟩
    · have e1 := Nat.eq_of_beq_eq_true c1
      have e2 := Nat.eq_of_beq_eq_true c2
      subst e1; subst e2
      exact va_getsN (C := RX5) (ref := RX5) (host := RX5) C.1 C.2.1 hZ h5 hown (va_Nw.use rfl hst.2.2.2.1) (fun _ hx => hx) hd hr
    · have e1 := Nat.eq_of_beq_eq_true c1
      have e2 := Nat.eq_of_beq_eq_true c2
      subst e1; subst e2
      exact va_getsN (C := RX5) (ref := RX5) (host := RX5) C.1 C.2.1 hZ h5 hown (va_Nw.use rfl hst.2.2.2.2.1) (fun _ hx => hx) hd hr
    · have e1 := Nat.eq_of_beq_eq_true c1
      have e2 := Nat.eq_of_beq_eq_true c2
      subst e1; subst e2
      exact va_getsN (C := RX5) (ref := RX5) (host := RX5) C.1 C.2.1 hZ h5 hown (va_Nw.use rfl hst.2.2.2.2.2.1) (fun _ hx => hx) hd hr
end SNK
