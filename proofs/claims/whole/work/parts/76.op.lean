/-! text -/
def wTx : WW := fun j _ _ => j = 7 ∨ j = 9 ∨ j = 17 ∨ j = 30 ∨ j = 31 ∨ j = 32 ∨ j = 1
theorem PV.tx {F : Fl} {I : Option Fl} {nT : Nat} (h : PV F I nT) (hn : nT < 6) : PV F I (nT + 1) := by
  obtain ⟨p1, p2, p3, p4⟩ := h
  have w : ∀ G, WF nT G → WF (nT + 1) G := fun G hG => ⟨hG.1, by have := hG.2.1; omega, by omega, hG.2.2.2⟩
  exact ⟨w F p1, p2, p3, fun G hG => by
    obtain ⟨a1, a2⟩ := p4 G hG
    exact ⟨w G a1, a2⟩⟩
theorem CR.tx {S S' : St} {F : Fl} {I : Option Fl} {sh : Shs} {T T' : Tx} {nT nT' : Nat} {tb tb' : Nat → Tx} (h : CR S F I sh T nT tb) (hk : ∀ j g k, ¬ wTx j g k → S'.1 j g k = S.1 j g k) (h1 : TXC S' nT' tb') (h2 : TP S' T') : CR S' F I sh T' nT' tb' := by
  obtain ⟨c1, c2, c3, c4, c5, c6, c7⟩ := h
  have g : Ag wTx S (S'.1, S.2) := ⟨hk, rfl⟩
  have d2 : STA (S'.1, S.2) := c2.up g (fun j g k z => by simp only [wTx] at z; omega)
  have d3 : HF (S'.1, S.2) 0 F := c3.up g (fun j k z => by simp only [wTx] at z; omega)
  have d4 : zB (S'.1, S.2) 0 F.n := c4.up g (fun j k z => by simp only [wTx] at z; omega)
  have d5 : IMc (S'.1, S.2) I := c5.up g (fun j g k z => by simp only [wTx] at z; omega)
  have d6 : SHc (S'.1, S.2) sh := c6.up g (fun j g k z => by simp only [wTx] at z; omega)
  refine ⟨h1, d2, d3, d4, ?_, d6, h2⟩
  cases I with
  | none => exact d5
  | some G => exact d5
theorem MR.tx {S S' : St} {F : Fl} {I : Option Fl} {sh : Shs} {T T' : Tx} {nT nT' n : Nat} {tb tb' : Nat → Tx} (h : MR S F I sh T nT tb) (h1 : Ag (mTx n) S S') (h2 : MTC S' nT' tb') (h3 : TPm S' T') : MR S' F I sh T' nT' tb' := by
  obtain ⟨m1, m2, m3, m4, m5, m6⟩ := h
  exact ⟨h2, fun k hk => by rw [h1.1 47 0 k (by simp [mTx])]; exact m2 k hk, m3.up h1 (fun j g k z => by simp only [mTx] at z; omega), m4.up (fun j g k a => h1.1 j g k (by simp only [mTx]; omega)), m5.up (fun j g k a b => h1.1 j g k (by simp only [mTx]; omega)), h3⟩
theorem op_text : OpA m_X5_text m_X6_text [] isI := by
  intro d S K hd hT hK
  obtain ⟨F, I, sh, T, nT, tb, hT⟩ := hT
  have hTT : TTx S := ⟨F, I, sh, T, nT, tb, hT⟩
  obtain ⟨t1, t2, t3, t4, t5⟩ := id hT
  have hTP : TP S T := t4.2.2.2.2.2.2
  have hTm : TPm S T := t5.2.2.2.2.2
  have n6 : nT ≤ 6 := t4.1.2.1
  have toM : ∀ S1 : St, (∀ j g k, ¬ wTx j g k → S1.1 j g k = S.1 j g k) → MR S1 F I sh T nT tb := fun S1 hk =>
    t5.cl (fun j g k hj => hk j g k (by simp only [wTx]; omega))
  have htp : ∀ S1 : St, (∀ j g k, ¬ wTx j g k → S1.1 j g k = S.1 j g k) → S1.1 40 0 6 = nI T.1 ∧ ∀ k, k < T.1 → S1.1 43 0 k = nI (T.2 k) ∧ T.2 k ≤ 255 := fun S1 hk =>
    ⟨by rw [hk 40 0 6 (by simp [wTx])]; exact hTm.1, fun k hk2 => ⟨by rw [hk 43 0 k (by simp [wTx])]; exact hTm.2 k hk2, (hTP.2.2 k hk2).2⟩⟩
  have tp0 : ∀ S1 : St, S1.1 7 0 1 = nI 0 → TP S1 (0, T.2) := fun S1 h => ⟨h, by show 0 ≤ 160; omega, fun k hk => absurd hk (Nat.not_lt_zero k)⟩
  have tm0 : ∀ S1 : St, S1.1 40 0 6 = nI 0 → TPm S1 (0, T.2) := fun S1 h => ⟨h, fun k hk => absurd hk (Nat.not_lt_zero k)⟩
  refine q_text (by omega) t1 hTP t4.1 t3 (fun h6 => ?_) (fun h6 hf S1 g1 hz => ?_) (fun h6 hf S1 hN1 hk hX1 hc1 hz => ?_)
  · refine hK S _ ⟨_, rfl⟩ (by omega) (fun d' K' hd' hK' => ?_)
    obtain ⟨q1, q2⟩ := htp S (fun _ _ _ _ => rfl)
    exact n_text (by omega) t1 t5.1 hTP.2.1 q1 q2 (fun _ => hK' S hTT) (fun z => by omega) (fun z => by omega)
  · have hk : ∀ j g k, ¬ wTx j g k → S1.1 j g k = S.1 j g k := fun j g k z => g1.1 j g k (fun z2 => z (by simp only [wRt] at z2; simp only [wTx]; omega))
    refine hK S1 _ ⟨_, rfl⟩ (by rw [g1.2]; omega) (fun d' K' hd' hK' => ?_)
    obtain ⟨q1, q2⟩ := htp S1 hk
    have c1 : CR S1 F I sh (0, T.2) nT tb := t4.tx hk (t4.1.ag g1 (fun j g k z => by simp only [wRt] at z; omega)) (tp0 S1 hz)
    refine n_text (by omega) (t1.up g1) (toM S1 hk).1 hTP.2.1 q1 q2 (fun z => by omega) (fun _ _ S2 g2 hz2 hM2 => ?_) (fun _ z => by rw [hf] at z; cases z)
    exact hK' S2 ⟨F, I, sh, (0, T.2), nT, tb, (t1.up g1).up g2, t2, by rw [g2.2, g1.2]; exact t3, c1.mo (g2.mono (fun j g k z => by simp only [mTx] at z; simp only [wMo]; omega)), (toM S1 hk).tx g2 hM2 (tm0 S2 hz2)⟩
  · have hk : ∀ j g k, ¬ wTx j g k → S1.1 j g k = S.1 j g k := fun j g k z => hk j g k (fun z2 => z z2)
    refine hK S1 _ ⟨_, rfl⟩ (by omega) (fun d' K' hd' hK' => ?_)
    obtain ⟨q1, q2⟩ := htp S1 hk
    have c1 : CR S1 F I sh (0, T.2) (nT + 1) (upT tb nT T) := t4.tx hk hX1 (tp0 S1 hz)
    refine n_text (by omega) hN1 (toM S1 hk).1 hTP.2.1 q1 q2 (fun z => by omega) (fun _ z => by rw [hf] at z; cases z) (fun _ _ S2 g2 hz2 hM2 => ?_)
    exact hK' S2 ⟨F, I, sh, (0, T.2), nT + 1, upT tb nT T, hN1.up g2, t2.tx h6, by rw [g2.2]; exact hc1, c1.mo (g2.mono (fun j g k z => by simp only [mTx] at z; simp only [wMo]; omega)), (toM S1 hk).tx g2 hM2 (tm0 S2 hz2)⟩
