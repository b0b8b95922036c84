/-! the class, out of claim whole -/
def teI (tv : TV) (nT : Nat) (F : Fl) (sz : Nat) (v : Nat → Int32) (a o w : Nat) : Int32 := match w with
  | 0 => foN tv F a sz v
  | 1 => lkN (tF tv F 5 a sz v) 6
  | 2 => lkN (tF tv F 2 a sz v) 10
  | 3 => nI (cnT (tF tv F 0 a sz v) 100)
  | 4 => ff (tF tv F 0 a sz v) 100 0
  | 5 => nI (cnT (tF tv F 3 a sz v) 100)
  | 6 => ff (tF tv F 3 a sz v) 100 0
  | 7 => lkN (tF tv F 6 a sz v) nT
  | _ => lkN (liF tv F o sz v) F.n
theorem c_tellsx {tv : TV} {nT d g a o sz s wh : Nat} {S : St} {K : KT} {F : Fl} {v : Nat → Int32} (hd : 150 ≤ d) (hX : FX tv nT S 0 F) (hg : g < 4) (ha : a < F.n) (ho : o < F.n) (hao : ¬ a = o) (hwh : wh ≤ 8) (hs : S.1 20 g 0 = nI s - 1) (hs1 : 1 ≤ s) (hs3 : s ≤ 3) (hsz : S.1 20 g 1 = nI sz) (hs30 : sz ≤ 30) (hv : ∀ k, k < sz → S.1 21 g k = v k) (hcn : S.1 1 0 1 = nI nT) (h : ∀ S', Ag wTH S S' → K (some (aI (teI tv nT F sz v a o wh))) S') : Call d m_X5_tells [aR 0 0, aI (nI g), aI (nI a), aI (nI o), aI (nI wh)] S K := by
  refine Call.of (k := 149) hd (fun e he P hP => ?_)
  have hN := hX.1.1
  have hn5 := hX.2.2.1
  have hT2 : isT F.n (nI a) (nI o) = true := by
    rw [isT_n hn5 (by omega) (by omega), decide_eq_true ha, decide_eq_true ho, decide_eq_true hao]
    rfl
  repeat (first | (refine hP _ _ _ _ _ _ ?_; show P _ _ _ _ _ _) | (refine hP _ _ _ _ _ _ (And.intro (hN _ _ _ rfl) ?_); show P _ _ (aR _ _ :: _) _ _ _))
  refine hP _ _ _ _ _ _ (c_isSheet (by omega) ?_)
  rw [isD_N (by omega) (by omega), decide_eq_true hg]
  repeat (first | (refine hP _ _ _ _ _ _ ?_; show P _ _ _ _ _ _) | (refine hP _ _ _ _ _ _ (And.intro (hN _ _ _ rfl) ?_); show P _ _ (aR _ _ :: _) _ _ _) | refine hP _ _ _ _ _ _ (And.intro (fun _ => ?_) (fun hc => absurd hc (by decide))) | refine hP _ _ _ _ _ _ (And.intro (fun hc => absurd hc (by decide)) (fun _ => ?_)))
  refine hP _ _ _ _ _ _ (c_isTwo (by omega) hN hX.2.1.1 hn5 ?_)
  rw [hT2]
  repeat (first | (refine hP _ _ _ _ _ _ ?_; show P _ _ _ _ _ _) | (refine hP _ _ _ _ _ _ (And.intro (hN _ _ _ rfl) ?_); show P _ _ (aR _ _ :: _) _ _ _) | refine hP _ _ _ _ _ _ (And.intro (fun _ => ?_) (fun hc => absurd hc (by decide))) | refine hP _ _ _ _ _ _ (And.intro (fun hc => absurd hc (by decide)) (fun _ => ?_)))
  refine hP _ _ _ _ _ _ (And.intro (fun hc => absurd hc (nI_pos (by omega))) (fun _ => ?_))
  repeat (first | (refine hP _ _ _ _ _ _ ?_; show P _ _ _ _ _ _) | (refine hP _ _ _ _ _ _ (And.intro (hN _ _ _ rfl) ?_); show P _ _ (aR _ _ :: _) _ _ _))
  refine hP _ _ _ _ _ _ (And.intro (fun _ => ?_) (fun hc => absurd (nI_le (a := wh) (b := 8) hwh (by omega)) hc))
  repeat (first | (refine hP _ _ _ _ _ _ ?_; show P _ _ _ _ _ _) | (refine hP _ _ _ _ _ _ (And.intro (hN _ _ _ rfl) ?_); show P _ _ (aR _ _ :: _) _ _ _))
  refine hP _ _ _ _ _ _ (Exists.intro (g) (And.intro (And.intro (rfl) (show g < 4 from hg)) ?_))
  refine And.intro (hN _ _ _ (nn18 hg)) ?_
  show P _ _ (aR 20 g :: _) _ _ _
  repeat (first | (refine hP _ _ _ _ _ _ ?_; show P _ _ _ _ _ _) | (refine hP _ _ _ _ _ _ (And.intro (hN _ _ _ rfl) ?_); show P _ _ (aR _ _ :: _) _ _ _))
  rw [hs]
  refine hP _ _ _ _ _ _ (And.intro (fun _ => ?_) (fun hc => absurd hc (nI_p1n (by omega) (by omega))))
  repeat (first | (refine hP _ _ _ _ _ _ ?_; show P _ _ _ _ _ _) | (refine hP _ _ _ _ _ _ (And.intro (hN _ _ _ rfl) ?_); show P _ _ (aR _ _ :: _) _ _ _))
  rw [hsz]
  refine hP _ _ _ _ _ _ (And.intro (fun _ => ?_) (fun hc => absurd (nI_le (a := sz) (b := 30) hs30 (by omega)) hc))
  repeat (first | (refine hP _ _ _ _ _ _ ?_; show P _ _ _ _ _ _) | (refine hP _ _ _ _ _ _ (And.intro (hN _ _ _ rfl) ?_); show P _ _ (aR _ _ :: _) _ _ _))
  rcases (show wh = 0 ∨ wh = 1 ∨ wh = 2 ∨ wh = 3 ∨ wh = 4 ∨ wh = 5 ∨ wh = 6 ∨ wh = 7 ∨ wh = 8 by omega) with rfl | rfl | rfl | rfl | rfl | rfl | rfl | rfl | rfl
  · have h : ∀ S', Ag wTH S S' → K (some (aI (foN tv F a sz v))) S' := h
    refine hP _ _ _ _ _ _ (swP_to ?_)
    show P 112 _ _ _ _ _
    repeat (first | (refine hP _ _ _ _ _ _ ?_; show P _ _ _ _ _ _) | (refine hP _ _ _ _ _ _ (And.intro (hN _ _ _ rfl) ?_); show P _ _ (aR _ _ :: _) _ _ _) | refine hP _ _ _ _ _ _ (And.intro (fun _ => ?_) (fun hc => absurd hc (by decide))) | refine hP _ _ _ _ _ _ (And.intro (fun hc => absurd hc (by decide)) (fun _ => ?_)))
    refine hP _ _ _ _ _ _ (q_firstOtherwise (by omega) hX ha hsz (by omega) hv (fun S1 g1 => ?_))
    have h := h S1 (g1.mono w0_th)
    repeat (first | (refine hP _ _ _ _ _ _ ?_; show P _ _ _ _ _ _) | (refine hP _ _ _ _ _ _ (And.intro (hN _ _ _ rfl) ?_); show P _ _ (aR _ _ :: _) _ _ _))
    exact hP _ _ _ _ _ _ (h)
  · have h : ∀ S', Ag wTH S S' → K (some (aI (lkN (tF tv F 5 a sz v) 6))) S' := h
    refine hP _ _ _ _ _ _ (swP_to ?_)
    show P 123 _ _ _ _ _
    repeat (first | (refine hP _ _ _ _ _ _ ?_; show P _ _ _ _ _ _) | (refine hP _ _ _ _ _ _ (And.intro (hN _ _ _ rfl) ?_); show P _ _ (aR _ _ :: _) _ _ _) | refine hP _ _ _ _ _ _ (And.intro (fun _ => ?_) (fun hc => absurd hc (by decide))) | refine hP _ _ _ _ _ _ (And.intro (fun hc => absurd hc (by decide)) (fun _ => ?_)))
    refine hP _ _ _ _ _ _ (c_kindsTold (by omega) hX ha hsz (by omega) hv (fun S1 g1 => ?_))
    have h := h S1 g1
    repeat (first | (refine hP _ _ _ _ _ _ ?_; show P _ _ _ _ _ _) | (refine hP _ _ _ _ _ _ (And.intro (hN _ _ _ rfl) ?_); show P _ _ (aR _ _ :: _) _ _ _))
    exact hP _ _ _ _ _ _ (h)
  · have h : ∀ S', Ag wTH S S' → K (some (aI (lkN (tF tv F 2 a sz v) 10))) S' := h
    refine hP _ _ _ _ _ _ (swP_to ?_)
    show P 131 _ _ _ _ _
    repeat (first | (refine hP _ _ _ _ _ _ ?_; show P _ _ _ _ _ _) | (refine hP _ _ _ _ _ _ (And.intro (hN _ _ _ rfl) ?_); show P _ _ (aR _ _ :: _) _ _ _) | refine hP _ _ _ _ _ _ (And.intro (fun _ => ?_) (fun hc => absurd hc (by decide))) | refine hP _ _ _ _ _ _ (And.intro (fun hc => absurd hc (by decide)) (fun _ => ?_)))
    refine hP _ _ _ _ _ _ (c_numbersTold (by omega) hX ha hsz (by omega) hv (fun S1 g1 => ?_))
    have h := h S1 g1
    repeat (first | (refine hP _ _ _ _ _ _ ?_; show P _ _ _ _ _ _) | (refine hP _ _ _ _ _ _ (And.intro (hN _ _ _ rfl) ?_); show P _ _ (aR _ _ :: _) _ _ _))
    exact hP _ _ _ _ _ _ (h)
  · have h : ∀ S', Ag wTH S S' → K (some (aI (nI (cnT (tF tv F 0 a sz v) 100)))) S' := h
    refine hP _ _ _ _ _ _ (swP_to ?_)
    show P 139 _ _ _ _ _
    repeat (first | (refine hP _ _ _ _ _ _ ?_; show P _ _ _ _ _ _) | (refine hP _ _ _ _ _ _ (And.intro (hN _ _ _ rfl) ?_); show P _ _ (aR _ _ :: _) _ _ _) | refine hP _ _ _ _ _ _ (And.intro (fun _ => ?_) (fun hc => absurd hc (by decide))) | refine hP _ _ _ _ _ _ (And.intro (fun hc => absurd hc (by decide)) (fun _ => ?_)))
    refine hP _ _ _ _ _ _ (c_roundsTold (l := false) (by omega) hX ha hsz (by omega) hv (fun S1 g1 => ?_))
    have h := h S1 g1
    repeat (first | (refine hP _ _ _ _ _ _ ?_; show P _ _ _ _ _ _) | (refine hP _ _ _ _ _ _ (And.intro (hN _ _ _ rfl) ?_); show P _ _ (aR _ _ :: _) _ _ _))
    exact hP _ _ _ _ _ _ (h)
  · have h : ∀ S', Ag wTH S S' → K (some (aI (ff (tF tv F 0 a sz v) 100 0))) S' := h
    refine hP _ _ _ _ _ _ (swP_to ?_)
    show P 139 _ _ _ _ _
    repeat (first | (refine hP _ _ _ _ _ _ ?_; show P _ _ _ _ _ _) | (refine hP _ _ _ _ _ _ (And.intro (hN _ _ _ rfl) ?_); show P _ _ (aR _ _ :: _) _ _ _) | refine hP _ _ _ _ _ _ (And.intro (fun _ => ?_) (fun hc => absurd hc (by decide))) | refine hP _ _ _ _ _ _ (And.intro (fun hc => absurd hc (by decide)) (fun _ => ?_)))
    refine hP _ _ _ _ _ _ (c_roundsTold (l := true) (by omega) hX ha hsz (by omega) hv (fun S1 g1 => ?_))
    have h := h S1 g1
    repeat (first | (refine hP _ _ _ _ _ _ ?_; show P _ _ _ _ _ _) | (refine hP _ _ _ _ _ _ (And.intro (hN _ _ _ rfl) ?_); show P _ _ (aR _ _ :: _) _ _ _))
    exact hP _ _ _ _ _ _ (h)
  · have h : ∀ S', Ag wTH S S' → K (some (aI (nI (cnT (tF tv F 3 a sz v) 100)))) S' := h
    refine hP _ _ _ _ _ _ (swP_to ?_)
    show P 158 _ _ _ _ _
    repeat (first | (refine hP _ _ _ _ _ _ ?_; show P _ _ _ _ _ _) | (refine hP _ _ _ _ _ _ (And.intro (hN _ _ _ rfl) ?_); show P _ _ (aR _ _ :: _) _ _ _) | refine hP _ _ _ _ _ _ (And.intro (fun _ => ?_) (fun hc => absurd hc (by decide))) | refine hP _ _ _ _ _ _ (And.intro (fun hc => absurd hc (by decide)) (fun _ => ?_)))
    refine hP _ _ _ _ _ _ (c_donesTold (l := false) (by omega) hX ha hsz (by omega) hv (fun S1 g1 => ?_))
    have h := h S1 g1
    repeat (first | (refine hP _ _ _ _ _ _ ?_; show P _ _ _ _ _ _) | (refine hP _ _ _ _ _ _ (And.intro (hN _ _ _ rfl) ?_); show P _ _ (aR _ _ :: _) _ _ _))
    exact hP _ _ _ _ _ _ (h)
  · have h : ∀ S', Ag wTH S S' → K (some (aI (ff (tF tv F 3 a sz v) 100 0))) S' := h
    refine hP _ _ _ _ _ _ (swP_to ?_)
    show P 158 _ _ _ _ _
    repeat (first | (refine hP _ _ _ _ _ _ ?_; show P _ _ _ _ _ _) | (refine hP _ _ _ _ _ _ (And.intro (hN _ _ _ rfl) ?_); show P _ _ (aR _ _ :: _) _ _ _) | refine hP _ _ _ _ _ _ (And.intro (fun _ => ?_) (fun hc => absurd hc (by decide))) | refine hP _ _ _ _ _ _ (And.intro (fun hc => absurd hc (by decide)) (fun _ => ?_)))
    refine hP _ _ _ _ _ _ (c_donesTold (l := true) (by omega) hX ha hsz (by omega) hv (fun S1 g1 => ?_))
    have h := h S1 g1
    repeat (first | (refine hP _ _ _ _ _ _ ?_; show P _ _ _ _ _ _) | (refine hP _ _ _ _ _ _ (And.intro (hN _ _ _ rfl) ?_); show P _ _ (aR _ _ :: _) _ _ _))
    exact hP _ _ _ _ _ _ (h)
  · have h : ∀ S', Ag wTH S S' → K (some (aI (lkN (tF tv F 6 a sz v) nT))) S' := h
    refine hP _ _ _ _ _ _ (swP_to ?_)
    show P 178 _ _ _ _ _
    repeat (first | (refine hP _ _ _ _ _ _ ?_; show P _ _ _ _ _ _) | (refine hP _ _ _ _ _ _ (And.intro (hN _ _ _ rfl) ?_); show P _ _ (aR _ _ :: _) _ _ _) | refine hP _ _ _ _ _ _ (And.intro (fun _ => ?_) (fun hc => absurd hc (by decide))) | refine hP _ _ _ _ _ _ (And.intro (fun hc => absurd hc (by decide)) (fun _ => ?_)))
    refine hP _ _ _ _ _ _ (c_textsTold (by omega) hX ha hcn hsz (by omega) hv (fun S1 g1 => ?_))
    have h := h S1 g1
    repeat (first | (refine hP _ _ _ _ _ _ ?_; show P _ _ _ _ _ _) | (refine hP _ _ _ _ _ _ (And.intro (hN _ _ _ rfl) ?_); show P _ _ (aR _ _ :: _) _ _ _))
    exact hP _ _ _ _ _ _ (h)
  · have h : ∀ S', Ag wTH S S' → K (some (aI (lkN (liF tv F o sz v) F.n))) S' := h
    refine hP _ _ _ _ _ _ (swP_to ?_)
    show P 186 _ _ _ _ _
    repeat (first | (refine hP _ _ _ _ _ _ ?_; show P _ _ _ _ _ _) | (refine hP _ _ _ _ _ _ (And.intro (hN _ _ _ rfl) ?_); show P _ _ (aR _ _ :: _) _ _ _) | refine hP _ _ _ _ _ _ (And.intro (fun _ => ?_) (fun hc => absurd hc (by decide))) | refine hP _ _ _ _ _ _ (And.intro (fun hc => absurd hc (by decide)) (fun _ => ?_)))
    refine hP _ _ _ _ _ _ (c_dancersTold (by omega) hX ho hsz (by omega) hv (fun S1 g1 => ?_))
    have h := h S1 g1
    repeat (first | (refine hP _ _ _ _ _ _ ?_; show P _ _ _ _ _ _) | (refine hP _ _ _ _ _ _ (And.intro (hN _ _ _ rfl) ?_); show P _ _ (aR _ _ :: _) _ _ _))
    exact hP _ _ _ _ _ _ (h)
/-- where a start may hold what isn't 0 -/
def nzW : WW := fun j _ k => (j = 1 ∧ k = 1) ∨ j = 31 ∨ j = 32 ∨ (j = 20 ∧ k = 0) ∨ (j = 40 ∧ (k = 3 ∨ k = 37)) ∨ j = 41 ∨ j = 42 ∨ j = 47
/-- outside W all is as it was, and what was set is set; what was 0 is 0 -/
def Ev (W : WW) (S S' : St) : Prop := (∀ j g k, ¬ W j g k → S'.1 j g k = S.1 j g k ∧ (S.2.2.1 j g k = true → S'.2.2.1 j g k = true)) ∧ (∀ j g k, ¬ nzW j g k → S.1 j g k = 0 → S'.1 j g k = 0) ∧ S'.2.1 = S.2.1 ∧ ∀ t, ¬ W 31 t 0 → S'.2.2.2.1 t = S.2.2.2.1 t
theorem Ev.rf {W : WW} {S : St} : Ev W S S := ⟨fun _ _ _ _ => ⟨rfl, fun h => h⟩, fun _ _ _ _ h => h, rfl, fun _ _ => rfl⟩
theorem Ev.tr {W : WW} {S S1 S2 : St} (h : Ev W S S1) (h2 : Ev W S1 S2) : Ev W S S2 := ⟨fun j g k z => ⟨(h2.1 j g k z).1.trans (h.1 j g k z).1, fun q => (h2.1 j g k z).2 ((h.1 j g k z).2 q)⟩, fun j g k z q => h2.2.1 j g k z (h.2.1 j g k z q), h2.2.2.1.trans h.2.2.1, fun t z => (h2.2.2.2 t z).trans (h.2.2.2 t z)⟩
theorem Ev.mono {V W : WW} {S S' : St} (h : Ev V S S') (hw : ∀ j g k, V j g k → W j g k) : Ev W S S' := ⟨fun j g k z => h.1 j g k (fun q => z (hw _ _ _ q)), h.2.1, h.2.2.1, fun t z => h.2.2.2 t (fun q => z (hw _ _ _ q))⟩
theorem Ev.mk {W : WW} {S S1 : St} {j g n : Nat} (hw : ∀ k, W j g k) (h : Ev W S S1) : Ev W S (mkC S1 j g n) := by
  refine h.tr ⟨fun a b k z => ?_, fun a b k z q => ?_, rfl, fun t z => ?_⟩
  · have hne : ¬ (a = j ∧ b = g) := fun q => z (by rw [q.1, q.2]; exact hw k)
    show (if a = j ∧ b = g then (0 : Int32) else S1.1 a b k) = S1.1 a b k ∧ (S1.2.2.1 a b k = true → (if a = j ∧ b = g then false else S1.2.2.1 a b k) = true)
    rw [if_neg hne, if_neg hne]
    exact ⟨rfl, fun q => q⟩
  · show zr3 S1.1 j g 0 a b k = 0
    unfold zr3
    split
    · rfl
    · exact q
  · show (if j = 31 then upN S1.2.2.2.1 g n else S1.2.2.2.1) t = _
    split
    · rename_i e
      unfold upN
      rw [if_neg (fun q => z (by rw [q, ← e]; exact hw 0))]
    · rfl
theorem Ev.nn {W : WW} {S S1 : St} {j g k : Nat} (h : Ev W S S1) : Ev W S (nnSet S1 j g k) := by
  refine h.tr ⟨fun a b c z => ⟨rfl, fun q => ?_⟩, fun a b c z q => q, rfl, fun t z => rfl⟩
  show up3 S1.2.2.1 j g k true a b c = true
  unfold up3
  split
  · rfl
  · exact q
theorem Ev.iv {W : WW} {S S1 : St} {j g k : Nat} {v : Int32} (hw : W j g k) (hz : nzW j g k ∨ v = 0) (h : Ev W S S1) : Ev W S (ivSet S1 j g k v) := by
  refine h.tr ⟨fun a b c z => ⟨?_, fun q => q⟩, fun a b c z q => ?_, rfl, fun t z => rfl⟩
  · exact iv_ne (fun q => z (by rw [q.1, q.2.1, q.2.2]; exact hw))
  · by_cases e : a = j ∧ b = g ∧ c = k
    · rw [e.1, e.2.1, e.2.2, iv_at]
      rcases hz with hz | hz
      · rw [e.1, e.2.1, e.2.2] at z
        exact absurd hz z
      · exact hz
    · rw [iv_ne e]
      exact q
theorem nn_at {S : St} {j g k : Nat} : (nnSet S j g k).2.2.1 j g k = true := by simp [nnSet, up3]
theorem nn_up {S : St} {j g k a b c : Nat} (h : S.2.2.1 a b c = true) : (nnSet S j g k).2.2.1 a b c = true := by
  show up3 S.2.2.1 j g k true a b c = true
  unfold up3
  split
  · rfl
  · exact h
theorem nn_mk {S : St} {j g n a b c : Nat} (hne : ¬ (a = j ∧ b = g)) (h : S.2.2.1 a b c = true) : (mkC S j g n).2.2.1 a b c = true := by
  show zr3 S.2.2.1 j g false a b c = true
  unfold zr3
  rw [if_neg hne]
  exact h
theorem nnr0 : ∀ k, nnr 0 k = true → k = 0 ∨ k = 1 ∨ k = 2 ∨ k = 3 ∨ k = 4 ∨ k = 5 ∨ k = 7 := by
  intro k h
  have h2 : (Nat.beq (fty 5 k) 2 && Nat.ble (k + 1) 8) = true := h
  simp only [Bool.and_eq_true] at h2
  have hk := Nat.le_of_ble_eq_true h2.2
  have all : ∀ k, k < 8 → nnr 0 k = true → k = 0 ∨ k = 1 ∨ k = 2 ∨ k = 3 ∨ k = 4 ∨ k = 5 ∨ k = 7 := by decide +kernel
  exact all k hk h
theorem nnr1 : ∀ k, nnr 1 k = true → k = 0 ∨ k = 2 ∨ k = 3 := by
  intro k h
  have h2 : (Nat.beq (fty 2 k) 2 && Nat.ble (k + 1) 4) = true := h
  simp only [Bool.and_eq_true] at h2
  have hk := Nat.le_of_ble_eq_true h2.2
  have all : ∀ k, k < 4 → nnr 1 k = true → k = 0 ∨ k = 2 ∨ k = 3 := by decide +kernel
  exact all k hk h
theorem nnr7 : ∀ k, nnr 7 k = true → k = 0 ∨ k = 2 ∨ k = 4 := by
  intro k h
  have h2 : (Nat.beq (fty 1 k) 2 && Nat.ble (k + 1) 10) = true := h
  simp only [Bool.and_eq_true] at h2
  have hk := Nat.le_of_ble_eq_true h2.2
  have all : ∀ k, k < 10 → nnr 7 k = true → k = 0 ∨ k = 2 ∨ k = 4 := by decide +kernel
  exact all k hk h
theorem nnr10 : ∀ k, nnr 10 k = true → k = 0 ∨ k = 5 ∨ k = 6 ∨ k = 7 ∨ k = 8 ∨ k = 11 ∨ k = 12 := by
  intro k h
  have h2 : (Nat.beq (fty 0 k) 2 && Nat.ble (k + 1) 13) = true := h
  simp only [Bool.and_eq_true] at h2
  have hk := Nat.le_of_ble_eq_true h2.2
  have all : ∀ k, k < 13 → nnr 10 k = true → k = 0 ∨ k = 5 ∨ k = 6 ∨ k = 7 ∨ k = 8 ∨ k = 11 ∨ k = 12 := by decide +kernel
  exact all k hk h
theorem nnr20 : ∀ k, nnr 20 k = true → k = 2 := by
  intro k h
  have h2 : (Nat.beq (fty 3 k) 2 && Nat.ble (k + 1) 3) = true := h
  simp only [Bool.and_eq_true] at h2
  have hk := Nat.le_of_ble_eq_true h2.2
  have all : ∀ k, k < 3 → nnr 20 k = true → k = 2 := by decide +kernel
  exact all k hk h
theorem nnr30 : ∀ k, nnr 30 k = true → k = 0 ∨ k = 1 := by
  intro k h
  have h2 : (Nat.beq (fty 4 k) 2 && Nat.ble (k + 1) 2) = true := h
  simp only [Bool.and_eq_true] at h2
  have hk := Nat.le_of_ble_eq_true h2.2
  omega
theorem nnr6 : ∀ k, nnr 6 k = true → k = 0 ∨ k = 1 ∨ k = 2 := by
  intro k h
  have h2 : (true && true && Nat.ble (k + 1) 3) = true := h
  simp only [Bool.and_eq_true] at h2
  have hk := Nat.le_of_ble_eq_true h2.2
  omega
theorem nnr18 : ∀ k, nnr 18 k = true → k = 0 ∨ k = 1 ∨ k = 2 ∨ k = 3 := by
  intro k h
  have h2 : (true && true && Nat.ble (k + 1) 4) = true := h
  simp only [Bool.and_eq_true] at h2
  have hk := Nat.le_of_ble_eq_true h2.2
  omega
theorem nnrj {j k : Nat} (h : nnr j k = true) : j = 0 ∨ j = 1 ∨ j = 6 ∨ j = 7 ∨ j = 10 ∨ j = 18 ∨ j = 20 ∨ j = 30 ∨ j = 40 := by
  unfold nnr clsP rfk at h
  split at h <;> first | omega | skip
  split at h <;> first | omega | (simp at h; done) | skip
/-- all references of a cell are set -/
def NJ (j g : Nat) (S : St) : Prop := ∀ k, nnr j k = true → S.2.2.1 j g k = true
theorem NJ.ev {j g : Nat} {S S' : St} {W : WW} (h : NJ j g S) (h1 : Ev W S S') (hw : ∀ k, ¬ W j g k) : NJ j g S' := fun k z => (h1.1 j g k (hw k)).2 (h k z)
def wF0 (g : Nat) : WW := fun j i _ => i = g ∧ 11 ≤ j ∧ j ≤ 16
/-- Floor(): six rows come -/
theorem q_Floor_init {d g : Nat} {S : St} {K : KT} (hd : 2 ≤ d) (hg : g ≤ 100) (hid : ∀ i, i < 6 → idOf (S.2.2.2.2 + i) = (11 + i, g)) (h : ∀ S', Ev (wF0 g) S S' → S'.2.2.2.2 = S.2.2.2.2 + 6 → NJ 10 g S' → K none S') : Call d m_X0_init [aR 10 g, aR 1 0] S K := by
  refine Call.of (k := 1) hd (fun e he P hP => ?_)
  have hN : True := trivial
  repeat (first | (refine hP _ _ _ _ _ _ ?_; show P _ _ _ _ _ _) | (refine hP _ _ _ _ _ _ (And.intro (hN _ _ _ rfl) ?_); show P _ _ (aR _ _ :: _) _ _ _))
  refine hP _ _ _ _ _ _ (Exists.intro 11 (Exists.intro g (Exists.intro 5 ⟨rfl, by omega, hid 0 (by omega), hg, rfl, Or.inr rfl, (by show 0 + 1 ≤ 6; omega), (by show 0 + 5 ≤ 60; omega), ?_⟩)))
  repeat (first | (refine hP _ _ _ _ _ _ ?_; show P _ _ _ _ _ _) | (refine hP _ _ _ _ _ _ (And.intro (hN _ _ _ rfl) ?_); show P _ _ (aR _ _ :: _) _ _ _))
  refine hP _ _ _ _ _ _ (And.intro rfl ?_)
  repeat (first | (refine hP _ _ _ _ _ _ ?_; show P _ _ _ _ _ _) | (refine hP _ _ _ _ _ _ (And.intro (hN _ _ _ rfl) ?_); show P _ _ (aR _ _ :: _) _ _ _))
  refine hP _ _ _ _ _ _ (Exists.intro 12 (Exists.intro g (Exists.intro 5 ⟨rfl, by omega, hid 1 (by omega), hg, rfl, Or.inr rfl, (by show 1 + 1 ≤ 6; omega), (by show 5 + 5 ≤ 60; omega), ?_⟩)))
  repeat (first | (refine hP _ _ _ _ _ _ ?_; show P _ _ _ _ _ _) | (refine hP _ _ _ _ _ _ (And.intro (hN _ _ _ rfl) ?_); show P _ _ (aR _ _ :: _) _ _ _))
  refine hP _ _ _ _ _ _ (And.intro rfl ?_)
  repeat (first | (refine hP _ _ _ _ _ _ ?_; show P _ _ _ _ _ _) | (refine hP _ _ _ _ _ _ (And.intro (hN _ _ _ rfl) ?_); show P _ _ (aR _ _ :: _) _ _ _))
  refine hP _ _ _ _ _ _ (Exists.intro 13 (Exists.intro g (Exists.intro 5 ⟨rfl, by omega, hid 2 (by omega), hg, rfl, Or.inr rfl, (by show 2 + 1 ≤ 6; omega), (by show 10 + 5 ≤ 60; omega), ?_⟩)))
  repeat (first | (refine hP _ _ _ _ _ _ ?_; show P _ _ _ _ _ _) | (refine hP _ _ _ _ _ _ (And.intro (hN _ _ _ rfl) ?_); show P _ _ (aR _ _ :: _) _ _ _))
  refine hP _ _ _ _ _ _ (And.intro rfl ?_)
  repeat (first | (refine hP _ _ _ _ _ _ ?_; show P _ _ _ _ _ _) | (refine hP _ _ _ _ _ _ (And.intro (hN _ _ _ rfl) ?_); show P _ _ (aR _ _ :: _) _ _ _))
  refine hP _ _ _ _ _ _ (Exists.intro 14 (Exists.intro g (Exists.intro 25 ⟨rfl, by omega, hid 3 (by omega), hg, rfl, Or.inr rfl, (by show 3 + 1 ≤ 6; omega), (by show 15 + 25 ≤ 60; omega), ?_⟩)))
  repeat (first | (refine hP _ _ _ _ _ _ ?_; show P _ _ _ _ _ _) | (refine hP _ _ _ _ _ _ (And.intro (hN _ _ _ rfl) ?_); show P _ _ (aR _ _ :: _) _ _ _))
  refine hP _ _ _ _ _ _ (And.intro rfl ?_)
  repeat (first | (refine hP _ _ _ _ _ _ ?_; show P _ _ _ _ _ _) | (refine hP _ _ _ _ _ _ (And.intro (hN _ _ _ rfl) ?_); show P _ _ (aR _ _ :: _) _ _ _))
  refine hP _ _ _ _ _ _ (Exists.intro 15 (Exists.intro g (Exists.intro 10 ⟨rfl, by omega, hid 4 (by omega), hg, rfl, Or.inr rfl, (by show 4 + 1 ≤ 6; omega), (by show 40 + 10 ≤ 60; omega), ?_⟩)))
  repeat (first | (refine hP _ _ _ _ _ _ ?_; show P _ _ _ _ _ _) | (refine hP _ _ _ _ _ _ (And.intro (hN _ _ _ rfl) ?_); show P _ _ (aR _ _ :: _) _ _ _))
  refine hP _ _ _ _ _ _ (And.intro rfl ?_)
  repeat (first | (refine hP _ _ _ _ _ _ ?_; show P _ _ _ _ _ _) | (refine hP _ _ _ _ _ _ (And.intro (hN _ _ _ rfl) ?_); show P _ _ (aR _ _ :: _) _ _ _))
  refine hP _ _ _ _ _ _ (Exists.intro 16 (Exists.intro g (Exists.intro 10 ⟨rfl, by omega, hid 5 (by omega), hg, rfl, Or.inr rfl, (by show 5 + 1 ≤ 6; omega), (by show 50 + 10 ≤ 60; omega), ?_⟩)))
  repeat (first | (refine hP _ _ _ _ _ _ ?_; show P _ _ _ _ _ _) | (refine hP _ _ _ _ _ _ (And.intro (hN _ _ _ rfl) ?_); show P _ _ (aR _ _ :: _) _ _ _))
  refine hP _ _ _ _ _ _ (And.intro rfl ?_)
  repeat (first | (refine hP _ _ _ _ _ _ ?_; show P _ _ _ _ _ _) | (refine hP _ _ _ _ _ _ (And.intro (hN _ _ _ rfl) ?_); show P _ _ (aR _ _ :: _) _ _ _))
  refine hP _ _ _ _ _ _ (And.intro rfl ?_)
  repeat (first | (refine hP _ _ _ _ _ _ ?_; show P _ _ _ _ _ _) | (refine hP _ _ _ _ _ _ (And.intro (hN _ _ _ rfl) ?_); show P _ _ (aR _ _ :: _) _ _ _))
  exact hP _ _ _ _ _ _ (h _ (by repeat (first | exact Ev.rf | refine Ev.nn ?_ | refine Ev.mk (fun _ => by simp [wF0]) ?_ | refine Ev.iv (by simp [wF0]) (Or.inl (by simp [nzW])) ?_ | refine Ev.iv (by simp [wF0]) (Or.inr rfl) ?_)) rfl (fun k hk => by rcases nnr10 k hk with rfl | rfl | rfl | rfl | rfl | rfl | rfl <;> simp [nnSet, mkC, up3, zr3]))
def wRu : WW := fun j i _ => i = 0 ∧ (j = 1 ∨ j = 3 ∨ j = 4 ∨ j = 5 ∨ j = 30 ∨ j = 31 ∨ j = 32)
/-- what the rules hold at first -/
def rl0 (S : St) : Prop := NJ 1 0 S ∧ NJ 30 0 S ∧ S.2.2.1 3 0 0 = true ∧ S.2.2.2.1 0 = 3 ∧ S.1 1 0 1 = 1 ∧ (S.1 31 0 0 = 1 ∧ S.1 31 0 1 = 1 ∧ S.1 31 0 2 = 4) ∧ S.1 32 0 0 = 1 ∧ S.1 32 0 1 = 2 ∧ S.1 32 0 2 = 3
theorem q_Rules_init {d : Nat} {S : St} {K : KT} (hd : 3 ≤ d) (hc : S.2.2.2.2 = 2) (h : ∀ S', Ev wRu S S' → S'.2.2.2.2 = 8 → rl0 S' → K none S') : Call d m_X2_init [aR 1 0] S K := by
  refine Call.of (k := 2) hd (fun e he P hP => ?_)
  have hN : True := trivial
  repeat (first | (refine hP _ _ _ _ _ _ ?_; show P _ _ _ _ _ _) | (refine hP _ _ _ _ _ _ (And.intro (hN _ _ _ rfl) ?_); show P _ _ (aR _ _ :: _) _ _ _))
  refine hP _ _ _ _ _ _ (Exists.intro 3 (Exists.intro 0 (Exists.intro 6 ⟨rfl, by omega, by rw [hc]; rfl, Or.inr (Or.inr ⟨rfl, rfl⟩), rfl, (by show 0 + 1 ≤ 6; omega), (by show 0 + 6 ≤ 180; omega), ?_⟩)))
  repeat (first | (refine hP _ _ _ _ _ _ ?_; show P _ _ _ _ _ _) | (refine hP _ _ _ _ _ _ (And.intro (hN _ _ _ rfl) ?_); show P _ _ (aR _ _ :: _) _ _ _))
  refine hP _ _ _ _ _ _ (And.intro rfl ?_)
  repeat (first | (refine hP _ _ _ _ _ _ ?_; show P _ _ _ _ _ _) | (refine hP _ _ _ _ _ _ (And.intro (hN _ _ _ rfl) ?_); show P _ _ (aR _ _ :: _) _ _ _))
  refine hP _ _ _ _ _ _ (Exists.intro 4 (Exists.intro 0 (Exists.intro 6 ⟨rfl, by omega, by show idOf (S.2.2.2.2 + 1) = _; rw [hc]; rfl, by omega, rfl, Or.inr rfl, (by show 1 + 1 ≤ 6; omega), (by show 6 + 6 ≤ 180; omega), ?_⟩)))
  repeat (first | (refine hP _ _ _ _ _ _ ?_; show P _ _ _ _ _ _) | (refine hP _ _ _ _ _ _ (And.intro (hN _ _ _ rfl) ?_); show P _ _ (aR _ _ :: _) _ _ _))
  refine hP _ _ _ _ _ _ (And.intro rfl ?_)
  repeat (first | (refine hP _ _ _ _ _ _ ?_; show P _ _ _ _ _ _) | (refine hP _ _ _ _ _ _ (And.intro (hN _ _ _ rfl) ?_); show P _ _ (aR _ _ :: _) _ _ _))
  refine hP _ _ _ _ _ _ (Exists.intro 5 (Exists.intro 0 (Exists.intro 160 ⟨rfl, by omega, by show idOf (S.2.2.2.2 + 1 + 1) = _; rw [hc]; rfl, by omega, rfl, Or.inr rfl, (by show 2 + 1 ≤ 6; omega), (by show 12 + 160 ≤ 180; omega), ?_⟩)))
  repeat (first | (refine hP _ _ _ _ _ _ ?_; show P _ _ _ _ _ _) | (refine hP _ _ _ _ _ _ (And.intro (hN _ _ _ rfl) ?_); show P _ _ (aR _ _ :: _) _ _ _))
  refine hP _ _ _ _ _ _ (And.intro rfl ?_)
  repeat (first | (refine hP _ _ _ _ _ _ ?_; show P _ _ _ _ _ _) | (refine hP _ _ _ _ _ _ (And.intro (hN _ _ _ rfl) ?_); show P _ _ (aR _ _ :: _) _ _ _))
  refine hP _ _ _ _ _ _ (Exists.intro 31 (Exists.intro 0 (Exists.intro 3 ⟨rfl, by omega, by show idOf (S.2.2.2.2 + 1 + 1 + 1) = _; rw [hc]; rfl, by omega, rfl, Or.inl rfl, (by show 3 + 1 ≤ 6; omega), (by show 172 + 3 ≤ 180; omega), ?_⟩)))
  have hl : ∀ T : St, (mkC T 31 0 3).2.2.2.1 0 = 3 := fun T => by simp [mkC, upN]
  repeat (first | (refine hP _ _ _ _ _ _ ?_; show P _ _ _ _ _ _) | (refine hP _ _ _ _ _ _ (And.intro (hN _ _ _ rfl) ?_); show P _ _ (aR _ _ :: _) _ _ _))
  refine hP _ _ _ _ _ _ (Exists.intro (0) (And.intro (And.intro (rfl) (by show 0 < (mkC _ 31 0 3).2.2.2.1 0; rw [hl]; omega)) ?_))
  repeat (first | (refine hP _ _ _ _ _ _ ?_; show P _ _ _ _ _ _) | (refine hP _ _ _ _ _ _ (And.intro (hN _ _ _ rfl) ?_); show P _ _ (aR _ _ :: _) _ _ _))
  refine hP _ _ _ _ _ _ (Exists.intro (1) (And.intro (And.intro (rfl) (by show 1 < (mkC _ 31 0 3).2.2.2.1 0; rw [hl]; omega)) ?_))
  repeat (first | (refine hP _ _ _ _ _ _ ?_; show P _ _ _ _ _ _) | (refine hP _ _ _ _ _ _ (And.intro (hN _ _ _ rfl) ?_); show P _ _ (aR _ _ :: _) _ _ _))
  refine hP _ _ _ _ _ _ (Exists.intro (2) (And.intro (And.intro (rfl) (by show 2 < (mkC _ 31 0 3).2.2.2.1 0; rw [hl]; omega)) ?_))
  repeat (first | (refine hP _ _ _ _ _ _ ?_; show P _ _ _ _ _ _) | (refine hP _ _ _ _ _ _ (And.intro (hN _ _ _ rfl) ?_); show P _ _ (aR _ _ :: _) _ _ _))
  refine hP _ _ _ _ _ _ (Exists.intro 32 (Exists.intro 0 (Exists.intro 3 ⟨rfl, by omega, by show idOf (S.2.2.2.2 + 1 + 1 + 1 + 1) = _; rw [hc]; rfl, by omega, rfl, Or.inr rfl, (by show 4 + 1 ≤ 6; omega), (by show 175 + 3 ≤ 180; omega), ?_⟩)))
  repeat (first | (refine hP _ _ _ _ _ _ ?_; show P _ _ _ _ _ _) | (refine hP _ _ _ _ _ _ (And.intro (hN _ _ _ rfl) ?_); show P _ _ (aR _ _ :: _) _ _ _))
  refine hP _ _ _ _ _ _ (Exists.intro (0) (And.intro (And.intro (rfl) (by show 0 < 3; omega)) ?_))
  repeat (first | (refine hP _ _ _ _ _ _ ?_; show P _ _ _ _ _ _) | (refine hP _ _ _ _ _ _ (And.intro (hN _ _ _ rfl) ?_); show P _ _ (aR _ _ :: _) _ _ _))
  refine hP _ _ _ _ _ _ (Exists.intro (1) (And.intro (And.intro (rfl) (by show 1 < 3; omega)) ?_))
  repeat (first | (refine hP _ _ _ _ _ _ ?_; show P _ _ _ _ _ _) | (refine hP _ _ _ _ _ _ (And.intro (hN _ _ _ rfl) ?_); show P _ _ (aR _ _ :: _) _ _ _))
  refine hP _ _ _ _ _ _ (Exists.intro (2) (And.intro (And.intro (rfl) (by show 2 < 3; omega)) ?_))
  repeat (first | (refine hP _ _ _ _ _ _ ?_; show P _ _ _ _ _ _) | (refine hP _ _ _ _ _ _ (And.intro (hN _ _ _ rfl) ?_); show P _ _ (aR _ _ :: _) _ _ _))
  refine hP _ _ _ _ _ _ (And.intro (by simp [ivSet, nnSet, mkC, up3, zr3]) ?_)
  show P _ _ (aR 3 0 :: _) _ _ _
  repeat (first | (refine hP _ _ _ _ _ _ ?_; show P _ _ _ _ _ _) | (refine hP _ _ _ _ _ _ (And.intro (hN _ _ _ rfl) ?_); show P _ _ (aR _ _ :: _) _ _ _))
  refine hP _ _ _ _ _ _ (Exists.intro 30 (Exists.intro 0 ⟨by show idOf (S.2.2.2.2 + 1 + 1 + 1 + 1 + 1) = _; rw [hc]; rfl, rfl, (by show 5 + 1 ≤ 6; omega), (by show 178 + 2 ≤ 180; omega), (fun z => by cases z), ?_⟩))
  repeat (first | (refine hP _ _ _ _ _ _ ?_; show P _ _ _ _ _ _) | (refine hP _ _ _ _ _ _ (And.intro (hN _ _ _ rfl) ?_); show P _ _ (aR _ _ :: _) _ _ _))
  refine hP _ _ _ _ _ _ (q_Text_init (n := 0) (by omega) ?_)
  repeat (first | (refine hP _ _ _ _ _ _ ?_; show P _ _ _ _ _ _) | (refine hP _ _ _ _ _ _ (And.intro (hN _ _ _ rfl) ?_); show P _ _ (aR _ _ :: _) _ _ _))
  refine hP _ _ _ _ _ _ (Exists.intro 0 (And.intro (And.intro rfl (by show 0 < 6; omega)) (And.intro rfl ?_)))
  repeat (first | (refine hP _ _ _ _ _ _ ?_; show P _ _ _ _ _ _) | (refine hP _ _ _ _ _ _ (And.intro (hN _ _ _ rfl) ?_); show P _ _ (aR _ _ :: _) _ _ _))
  exact hP _ _ _ _ _ _ (h _ (by repeat (first | exact Ev.rf | refine Ev.nn ?_ | refine Ev.mk (fun _ => by simp [wRu]) ?_ | refine Ev.iv (by simp [wRu]) (Or.inl (by simp [nzW])) ?_ | refine Ev.iv (by simp [wRu]) (Or.inr rfl) ?_)) (by show S.2.2.2.2 + 1 + 1 + 1 + 1 + 1 + 1 = _; rw [hc]) ⟨fun k hk => by rcases nnr1 k hk with rfl | rfl | rfl <;> simp [ivSet, nnSet, mkC, up3, zr3], fun k hk => by rcases nnr30 k hk with rfl | rfl <;> simp [ivSet, nnSet, mkC, up3, zr3], by simp [ivSet, nnSet, mkC, up3, zr3], by simp [ivSet, nnSet, mkC, upN], by simp [ivSet, nnSet, mkC, up3, zr3], ⟨by simp [ivSet, nnSet, mkC, up3, zr3], by simp [ivSet, nnSet, mkC, up3, zr3], by simp [ivSet, nnSet, mkC, up3, zr3]⟩, by simp [ivSet, nnSet, mkC, up3, zr3], by simp [ivSet, nnSet, mkC, up3, zr3], by simp [ivSet, nnSet, mkC, up3, zr3]⟩)
def wRe : WW := fun j i _ => i = 0 ∧ (j = 7 ∨ j = 8 ∨ j = 9 ∨ j = 17)
theorem q_Reader_init {d : Nat} {S : St} {K : KT} (hd : 2 ≤ d) (hc : S.2.2.2.2 = 45) (h : ∀ S', Ev wRe S S' → S'.2.2.2.2 = 48 → NJ 7 0 S' → K none S') : Call d m_X1_init [aR 7 0] S K := by
  refine Call.of (k := 1) hd (fun e he P hP => ?_)
  have hN : True := trivial
  repeat (first | (refine hP _ _ _ _ _ _ ?_; show P _ _ _ _ _ _) | (refine hP _ _ _ _ _ _ (And.intro (hN _ _ _ rfl) ?_); show P _ _ (aR _ _ :: _) _ _ _))
  refine hP _ _ _ _ _ _ (Exists.intro 8 (Exists.intro 0 (Exists.intro 160 ⟨rfl, by omega, by rw [hc]; rfl, by omega, rfl, Or.inr rfl, (by show 0 + 1 ≤ 3; omega), (by show 0 + 160 ≤ 323; omega), ?_⟩)))
  repeat (first | (refine hP _ _ _ _ _ _ ?_; show P _ _ _ _ _ _) | (refine hP _ _ _ _ _ _ (And.intro (hN _ _ _ rfl) ?_); show P _ _ (aR _ _ :: _) _ _ _))
  refine hP _ _ _ _ _ _ (And.intro rfl ?_)
  repeat (first | (refine hP _ _ _ _ _ _ ?_; show P _ _ _ _ _ _) | (refine hP _ _ _ _ _ _ (And.intro (hN _ _ _ rfl) ?_); show P _ _ (aR _ _ :: _) _ _ _))
  refine hP _ _ _ _ _ _ (Exists.intro 9 (Exists.intro 0 (Exists.intro 160 ⟨rfl, by omega, by show idOf (S.2.2.2.2 + 1) = _; rw [hc]; rfl, by omega, rfl, Or.inr rfl, (by show 1 + 1 ≤ 3; omega), (by show 160 + 160 ≤ 323; omega), ?_⟩)))
  repeat (first | (refine hP _ _ _ _ _ _ ?_; show P _ _ _ _ _ _) | (refine hP _ _ _ _ _ _ (And.intro (hN _ _ _ rfl) ?_); show P _ _ (aR _ _ :: _) _ _ _))
  refine hP _ _ _ _ _ _ (And.intro rfl ?_)
  repeat (first | (refine hP _ _ _ _ _ _ ?_; show P _ _ _ _ _ _) | (refine hP _ _ _ _ _ _ (And.intro (hN _ _ _ rfl) ?_); show P _ _ (aR _ _ :: _) _ _ _))
  refine hP _ _ _ _ _ _ (Exists.intro 17 (Exists.intro 0 (Exists.intro 3 ⟨rfl, by omega, by show idOf (S.2.2.2.2 + 1 + 1) = _; rw [hc]; rfl, by omega, rfl, Or.inr rfl, (by show 2 + 1 ≤ 3; omega), (by show 320 + 3 ≤ 323; omega), ?_⟩)))
  repeat (first | (refine hP _ _ _ _ _ _ ?_; show P _ _ _ _ _ _) | (refine hP _ _ _ _ _ _ (And.intro (hN _ _ _ rfl) ?_); show P _ _ (aR _ _ :: _) _ _ _))
  refine hP _ _ _ _ _ _ (And.intro rfl ?_)
  repeat (first | (refine hP _ _ _ _ _ _ ?_; show P _ _ _ _ _ _) | (refine hP _ _ _ _ _ _ (And.intro (hN _ _ _ rfl) ?_); show P _ _ (aR _ _ :: _) _ _ _))
  exact hP _ _ _ _ _ _ (h _ (by repeat (first | exact Ev.rf | refine Ev.nn ?_ | refine Ev.mk (fun _ => by simp [wRe]) ?_ | refine Ev.iv (by simp [wRe]) (Or.inl (by simp [nzW])) ?_ | refine Ev.iv (by simp [wRe]) (Or.inr rfl) ?_)) (by show S.2.2.2.2 + 1 + 1 + 1 = _; rw [hc]) (fun k hk => by rcases nnr7 k hk with rfl | rfl | rfl <;> simp [ivSet, nnSet, mkC, up3, zr3]))
def wSg (g : Nat) : WW := fun j i _ => i = g ∧ (j = 20 ∨ j = 21)
theorem q_Sheet_init {d g : Nat} {S : St} {K : KT} (hd : 2 ≤ d) (hg : g ≤ 100) (hid : idOf S.2.2.2.2 = (21, g)) (h : ∀ S', Ev (wSg g) S S' → S'.2.2.2.2 = S.2.2.2.2 + 1 → NJ 20 g S' → S'.1 20 g 0 = -1 → K none S') : Call d m_X3_init [aR 20 g] S K := by
  refine Call.of (k := 1) hd (fun e he P hP => ?_)
  have hN : True := trivial
  repeat (first | (refine hP _ _ _ _ _ _ ?_; show P _ _ _ _ _ _) | (refine hP _ _ _ _ _ _ (And.intro (hN _ _ _ rfl) ?_); show P _ _ (aR _ _ :: _) _ _ _))
  refine hP _ _ _ _ _ _ (Exists.intro 21 (Exists.intro g (Exists.intro 40 ⟨rfl, by omega, hid, hg, rfl, Or.inr rfl, (by show 0 + 1 ≤ 1; omega), (by show 0 + 40 ≤ 40; omega), ?_⟩)))
  repeat (first | (refine hP _ _ _ _ _ _ ?_; show P _ _ _ _ _ _) | (refine hP _ _ _ _ _ _ (And.intro (hN _ _ _ rfl) ?_); show P _ _ (aR _ _ :: _) _ _ _))
  refine hP _ _ _ _ _ _ (And.intro rfl ?_)
  repeat (first | (refine hP _ _ _ _ _ _ ?_; show P _ _ _ _ _ _) | (refine hP _ _ _ _ _ _ (And.intro (hN _ _ _ rfl) ?_); show P _ _ (aR _ _ :: _) _ _ _))
  exact hP _ _ _ _ _ _ (h _ (by repeat (first | exact Ev.rf | refine Ev.nn ?_ | refine Ev.mk (fun _ => by simp [wSg]) ?_ | refine Ev.iv (by simp [wSg]) (Or.inl (by simp [nzW])) ?_ | refine Ev.iv (by simp [wSg]) (Or.inr rfl) ?_)) rfl (fun k hk => by rcases nnr20 k hk with rfl; simp [ivSet, nnSet, mkC, up3, zr3]) (by simp [ivSet, nnSet, mkC, up3, zr3]))

