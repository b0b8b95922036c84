/-! SOUNDNESS: a run of AM is a contract -/
theorem mkL_len : ∀ (n : Nat) (as : List AV), (mkL n as).length = n
  | 0, _ => rfl
  | n + 1, [] => by simp [mkL, mkL_len n []]
  | 1, v :: r => by
    unfold mkL
    split <;> rfl
  | n + 2, v :: r => by
    unfold mkL
    split
    · simp [mkL_len n r]
    · simp [mkL_len (n + 1) r]
theorem mkL_in : ∀ (n : Nat) (as : List AV) (k : Nat) (v : AV), nth (mkL n as) k = some (some v) → v ∈ as
  | 0, _, k, v, h => by simp [mkL, nth] at h
  | n + 1, [], 0, v, h => by simp [mkL, nth] at h
  | n + 1, [], k + 1, v, h => by
    simp only [mkL, nth] at h
    exact mkL_in n [] k v h
  | 1, u :: r, 0, v, h => by
    unfold mkL at h
    split at h <;> (simp only [nth, Option.some.injEq] at h; rw [h]; exact List.mem_cons_self)
  | 1, u :: r, k + 1, v, h => by
    unfold mkL at h
    split at h <;> simp [nth, mkL] at h
  | n + 2, u :: r, 0, v, h => by
    unfold mkL at h
    split at h <;> (simp only [nth, Option.some.injEq] at h; rw [h]; exact List.mem_cons_self)
  | n + 2, u :: r, k + 1, v, h => by
    unfold mkL at h
    split at h
    · cases k with
      | zero => simp [nth] at h
      | succ k => exact List.mem_cons_of_mem _ (mkL_in n r k v h)
    · exact List.mem_cons_of_mem _ (mkL_in (n + 1) r k v h)
theorem lvl_mkL {E : Env0} : ∀ (n : Nat) (as : List AV) (k : Nat), ∀ q ∈ lvl E (mkL n as) k, q ∈ lv_args k (as.map (cv E))
  | 0, _, k, q, h => by simp [mkL, lvl] at h
  | n + 1, [], k, q, h => by
    simp only [mkL, lvl] at h
    have := lvl_mkL n [] (k + 1) q h
    simp [lv_args] at this
  | 1, v :: r, k, q, h => by
    unfold mkL at h
    split at h <;> (simp [lvl, mkL] at h; subst h; exact List.mem_cons_self)
  | n + 2, v :: r, k, q, h => by
    unfold mkL at h
    split at h
    · simp only [lvl] at h
      rcases List.mem_cons.mp h with h | h
      · rw [h]; exact List.mem_cons_self
      · refine List.mem_cons_of_mem _ ?_
        exact lvl_mkL n r (k + 1 + 1) q h
    · rename_i hv
      simp only [lvl] at h
      rcases List.mem_cons.mp h with h | h
      · rw [h]; exact List.mem_cons_self
      · refine List.mem_cons_of_mem _ ?_
        have h1 := lvl_mkL (n + 1) r (k + 1) q h
        have hc : ¬ (cv E v).category = 2 := by
          intro z
          have := cv_cat.mp z
          rcases v with x | x | x | x
          · simp [isJ] at this
          · exact hv x rfl
          · simp [isJ] at this
          · simp [isJ] at this
        simp only [hc, if_false]
        exact h1
theorem sl_len {E : Env0} (as : List AV) : (lg_sl (as.map (cv E))).length = catS as := by
  induction as with
  | nil => rfl
  | cons v r ih =>
    simp only [List.map_cons, lg_sl, List.flatMap_cons, List.length_append, catS]
    have : (List.flatMap (fun v => if v.category = 2 then [Slot.val v, Slot.second] else [Slot.val v]) (r.map (cv E))).length = catS r := ih
    rw [this]
    rcases v with x | x | x | x <;> simp [cv, Value.category]
theorem ret_ty {Y : MT} (h : ckN Y = true) {k : Nat} (hk : Y.1.2.2.2.2 = k) : (k = 0 → Y.2.2.2.2 = none) ∧ (k = 1 → Y.2.2.2.2 = some .int) ∧ (k = 2 → Y.2.2.2.2 = some .long) ∧ (k = 3 → ∃ C, Y.2.2.2.2 = some (.object C)) ∧ (k = 4 → Y.2.2.2.2 = some .boolean) := by
  have := (ckN_of h).2.2.2.2.1
  rw [hk] at this
  unfold rkOf at this
  split at this <;> (rename_i hr; refine ⟨fun z => ?_, fun z => ?_, fun z => ?_, fun z => ?_, fun z => ?_⟩ <;> first | exact hr | exact ⟨_, hr⟩ | (subst z; simp at this; done))
set_option maxHeartbeats 1000000 in
theorem sound {E : Env0} {X : State → Prop} {l : Launch} (hX : Xok E X) : ∀ (d : Nat) {S : St} (Z : MT) (as : List AV) (K : KT), ckP Z → ckN Z = true → catS as ≤ Z.2.2.2.1 → Call d Z as S K → MetC E X l d Z as S K := by
  intro d
  induction d with
  | zero => intro S Z as K _ _ _ h; exact h.elim
  | succ d ih =>
    intro S Z as K hP hN hfit h
    obtain ⟨n1, n2, n3, n4, n5, n6⟩ := ckN_of hN
    refine Met.ofW (cc := Z.2.2.1) (maxL := Z.2.2.2.1) (ret := Z.2.2.2.2) n2 rfl ?_
    intro p e s m args below meth c s₁ B hml hv
    obtain ⟨rfl, hR, hSt, hlv⟩ := hv
    have hts := atoms_spec (ws := wsM Z) B.pre
    have hown : s.vm.findClass (own8 Z.1.2.1) = some m.cls := by
      rw [← n1]
      exact findClass_of_methodNamed B.named
    have C : Ctx E X Z d p (headSpec (wsM Z) (rmOf (d + 1) Z)).room s m (as.map (cv E)).toArray meth c :=
      ⟨B.exec, B.bytes, hml, hown, fun w hw => hts w (List.mem_cons_of_mem _ hw), hP, hSt, (by show d + 9 ≤ d + 1 + 8; omega), (by show 64 * d + 664 ≤ 64 * (d + 1) + 600; omega), Nat.le_refl _, Nat.le_refl _, fun z => by rw [(name_of_methodNamed B.named B.method).1]; exact z⟩
    have hlocks := B.notSynchronized
    have hret := B.returns
    have hHR : HRet E Z S.2.2.2.2 p l e (headSpec (wsM Z) (rmOf (d + 1) Z)).room s m (as.map (cv E)).toArray below meth c (MQ below (fun _ st o t => QcT E S K st o t) (as.map (cv E)).toArray s Z.1.2.2.1 Z.1.2.2.2.1 (baseA E)) K := by
      intro pc fc fs S' H locs ls i v hd hri hK hR' hlv' hS hn hfc hfs
      refine W.widen hfc hfs ?_
      have hq : ∀ t : State, t.heap = H → s.WarmedH t.vm → QcT E S K s (.returned (v.map (cv E))) t := fun t ht _ => ⟨⟨v, S', hK, rfl, by rw [ht]; exact hR', hlv', hn⟩, hS.F ht⟩
      have hty := ret_ty hN (k := Z.1.2.2.2.2) rfl
      rcases hri with ⟨rfl, x, rfl, hx | ⟨hx, h01⟩⟩ | ⟨rfl, hx, x, rfl⟩ | ⟨rfl, hx, q, rfl⟩ | ⟨rfl, hx, rfl⟩
      · exact W.iret (v := x) B.exec B.bytes (by rw [hret]; exact hty.2.1 hx) (fun t a b => hq t a b) hS.2.2 hd
      · exact W.zret (v := x) (ty := .boolean) B.exec B.bytes (by rw [hret]; exact hty.2.2.2.2 hx) (by rcases h01 with rfl | rfl <;> decide) (fun t a b => hq t a b) hS.2.2 hd
      · exact W.lret (v := x) B.exec B.bytes (by rw [hret]; exact hty.2.2.1 hx) (fun t a b => hq t a b) hS.2.2 hd
      · obtain ⟨Cn, hCn⟩ := hty.2.2.2.1 hx
        rcases q with _ | q
        · exact W.aret (v := .null) B.exec B.bytes (by rw [hret]; exact hCn) (Or.inl ⟨Cn, rfl⟩) (Or.inl rfl) (fun t a b => hq t a b) hS.2.2 hd
        · exact W.aret (v := .ref (adr E q.1 q.2)) B.exec B.bytes (by rw [hret]; exact hCn) (Or.inl ⟨Cn, rfl⟩) (Or.inr ⟨_, rfl⟩) (fun t a b => hq t a b) hS.2.2 hd
      · exact W.vret B.exec B.bytes (by rw [hret]; exact hty.1 hx) (fun t a b => hq t a b) hS.2.2 hd
    have hst := step (n0 := S.2.2.2.2) (below := below) (l := l) (e := e) (call := Call d) (K := K) C hX hHR (fun {S'} Z' as' K' a b c0 h' => ih Z' as' K' a b c0 h')
    have hps := h _ hst
    rw [lg_entry_eq]
    have hle : (lg_sl (as.map (cv E))).length ≤ Z.2.2.2.1 := by rw [sl_len]; exact hfit
    have hl := lv_entry (as.map (cv E)) (n := Z.2.2.2.1) hle
    exact hps s.heap [] _ hR ⟨⟨hl.1, hl.2.1, fun q hq => hl.2.2 q (lvl_mkL _ _ _ q hq)⟩, mkL_len _ _⟩ (fun k v hk => hlv v (mkL_in _ _ k v hk)) (fun v hv => absurd hv List.not_mem_nil) va_S.rf (Nat.le_refl _) (Nat.zero_le _) (Nat.zero_le _) (fun _ => by rw [hR.1, Nat.add_zero])
