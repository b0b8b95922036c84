/-! the rule that is there at first, worked out; what stands behind the constructor -/
theorem RV0 {S : St} (hN : NN S) (a3 : S.2.2.1 3 0 0 = true) (a4 : S.2.2.2.1 0 = 3) (a5 : S.1 1 0 1 = 1) (b0 : S.1 31 0 0 = 1) (b1 : S.1 31 0 1 = 1) (b4 : S.1 31 0 2 = 4) (c0 : S.1 32 0 0 = 1) (c1 : S.1 32 0 1 = 2) (c2 : S.1 32 0 2 = 3) : RV S 1 tv0 := by
  intro d S1 K t p N hd hx ht hp hnm h
  obtain rfl : t = 0 := by omega
  obtain ⟨x31, x32, x1, x2⟩ := hx
  have hN1 : NN S1 := fun j g k hj => by rw [x2]; exact hN j g k hj
  have hc : S1.1 1 0 1 = nI 1 := by rw [x1]; exact a5
  have f2 : S1.2.2.1 3 0 0 = true := by rw [x2]; exact a3
  have f4 : S1.2.2.2.1 0 = 3 := by rw [x2]; exact a4
  have hend : ∀ q, q < 3 → S1.1 32 0 q = nI (q + 1) := by
    intro q hq
    rw [x32]
    rcases (show q = 0 ∨ q = 1 ∨ q = 2 by omega) with rfl | rfl | rfl
    · exact c0
    · exact c1
    · exact c2
  obtain ⟨c, hc9, hcd, hv⟩ : ∃ c, c < 9 ∧ S1.1 31 0 p = nI c ∧ tv0 0 p N = nI c := by
    rw [x31]
    rcases (show p = 0 ∨ p = 1 ∨ p = 2 by omega) with rfl | rfl | rfl
    · exact ⟨1, by omega, b0, rfl⟩
    · exact ⟨1, by omega, b1, rfl⟩
    · exact ⟨4, by omega, b4, rfl⟩
  rw [hv] at h
  refine Call.of (k := 0) hd (fun e he P hP => ?_)
  have last : ∀ S2 x6 x7, Sc S1 S2 → S2.1 5 0 0 = nI c → P 57 [some (aR 1 0), some (aI (nI 0)), some (aI (nI p)), some (aR 30 0), some (aI (nI 0)), some (aI (nI (p + 1))), x6, x7] [aI (nI p), aR 32 0, aI (nI (p + 1))] S2 0 0 := by
    intro S2 x6 x7 g hs
    have hN := g.nn hN1
    have h := h S2 g
    refine hP _ _ _ _ _ _ (Exists.intro (p) (And.intro (And.intro (rfl) (by show p < 3; omega)) ?_))
    rw [show S2.1 32 0 p = nI (p + 1) from by rw [g.1 32 rfl]; exact hend p hp]
    refine hP _ _ _ _ _ _ (And.intro (fun _ => ?_) (fun hc => absurd (nI_le (Nat.le_refl _) (by omega)) hc))
    repeat (first | (refine hP _ _ _ _ _ _ ?_; show P _ _ _ _ _ _) | (refine hP _ _ _ _ _ _ (And.intro (hN _ _ _ rfl) ?_); show P _ _ (aR _ _ :: _) _ _ _) | refine hP _ _ _ _ _ _ (And.intro (fun _ => ?_) (fun hc => absurd hc (by decide))) | refine hP _ _ _ _ _ _ (And.intro (fun hc => absurd hc (by decide)) (fun _ => ?_)))
    refine hP _ _ _ _ _ _ (Exists.intro (0) (And.intro (And.intro (rfl) (by show 0 < 160; omega)) ?_))
    rw [hs]
    repeat (first | (refine hP _ _ _ _ _ _ ?_; show P _ _ _ _ _ _) | (refine hP _ _ _ _ _ _ (And.intro (hN _ _ _ rfl) ?_); show P _ _ (aR _ _ :: _) _ _ _) | refine hP _ _ _ _ _ _ (And.intro (fun _ => ?_) (fun hc => absurd hc (by decide))) | refine hP _ _ _ _ _ _ (And.intro (fun hc => absurd hc (by decide)) (fun _ => ?_)))
    exact hP _ _ _ _ _ _ (h)
  have main : ∀ x6 x7, P 57 [some (aR 1 0), some (aI (nI 0)), some (aI (nI p)), some (aR 30 0), some (aI (-1)), some (aI (nI p)), x6, x7] [aI (nI p), aR 32 0, aI (nI p)] S1 0 0 := by
    intro x6 x7
    have hN := hN1
    refine hP _ _ _ _ _ _ (Exists.intro (p) (And.intro (And.intro (rfl) (by show p < 3; omega)) ?_))
    rw [hend p hp]
    refine hP _ _ _ _ _ _ (And.intro (fun hc => absurd hc (nI_ge (by omega) (by omega))) (fun _ => ?_))
    repeat (first | (refine hP _ _ _ _ _ _ ?_; show P _ _ _ _ _ _) | (refine hP _ _ _ _ _ _ (And.intro (hN _ _ _ rfl) ?_); show P _ _ (aR _ _ :: _) _ _ _))
    refine hP _ _ _ _ _ _ (Exists.intro (p) (And.intro (And.intro (rfl) (by show p < S1.2.2.2.1 0; omega)) ?_))
    rw [hcd]
    repeat (first | (refine hP _ _ _ _ _ _ ?_; show P _ _ _ _ _ _) | (refine hP _ _ _ _ _ _ (And.intro (hN _ _ _ rfl) ?_); show P _ _ (aR _ _ :: _) _ _ _))
    refine hP _ _ _ _ _ _ (And.intro (fun hc => absurd hc (nI_ge (a := c) (b := 10006) (by omega) (by decide))) (fun _ => ?_))
    repeat (first | (refine hP _ _ _ _ _ _ ?_; show P _ _ _ _ _ _) | (refine hP _ _ _ _ _ _ (And.intro (hN _ _ _ rfl) ?_); show P _ _ (aR _ _ :: _) _ _ _))
    rw [show (-1 : Int32) + 1 = nI 0 from by decide]
    refine hP _ _ _ _ _ _ (And.intro (fun _ => ?_) (fun hc => absurd (nI_lt (a := 0) (b := 160) (by omega) (by decide)) hc))
    repeat (first | (refine hP _ _ _ _ _ _ ?_; show P _ _ _ _ _ _) | (refine hP _ _ _ _ _ _ (And.intro (hN _ _ _ rfl) ?_); show P _ _ (aR _ _ :: _) _ _ _))
    refine hP _ _ _ _ _ _ (And.intro (fun hc => absurd hc (nI_ge (a := c) (b := 10000) (by omega) (by decide))) (fun _ => ?_))
    repeat (first | (refine hP _ _ _ _ _ _ ?_; show P _ _ _ _ _ _) | (refine hP _ _ _ _ _ _ (And.intro (hN _ _ _ rfl) ?_); show P _ _ (aR _ _ :: _) _ _ _))
    refine hP _ _ _ _ _ _ (Exists.intro (0) (And.intro (And.intro (rfl) (by show 0 < 160; omega)) ?_))
    show P _ _ _ (ivSet S1 5 0 0 (nI c)) _ _
    have := last (ivSet S1 5 0 0 (nI c)) (some (aI (nI c))) x7 (Sc.st rfl) iv_at
    rw [nI_succ p] at this
    repeat (first | (refine hP _ _ _ _ _ _ ?_; show P _ _ _ _ _ _) | (refine hP _ _ _ _ _ _ (And.intro (hN _ _ _ rfl) ?_); show P _ _ (aR _ _ :: _) _ _ _))
    exact this
  have hN := hN1
  repeat (first | (refine hP _ _ _ _ _ _ ?_; show P _ _ _ _ _ _) | (refine hP _ _ _ _ _ _ (And.intro (hN _ _ _ rfl) ?_); show P _ _ (aR _ _ :: _) _ _ _) | refine hP _ _ _ _ _ _ (And.intro (fun _ => ?_) (fun hc => absurd hc (by decide))) | refine hP _ _ _ _ _ _ (And.intro (fun hc => absurd hc (by decide)) (fun _ => ?_)))
  rw [hc]
  repeat (first | (refine hP _ _ _ _ _ _ ?_; show P _ _ _ _ _ _) | (refine hP _ _ _ _ _ _ (And.intro (hN _ _ _ rfl) ?_); show P _ _ (aR _ _ :: _) _ _ _) | refine hP _ _ _ _ _ _ (And.intro (fun _ => ?_) (fun hc => absurd hc (by decide))) | refine hP _ _ _ _ _ _ (And.intro (fun hc => absurd hc (by decide)) (fun _ => ?_)))
  refine hP _ _ _ _ _ _ (Exists.intro 0 (And.intro (And.intro rfl (by show 0 < 6; omega)) (And.intro f2 ?_)))
  show P _ _ (aR 30 0 :: _) _ _ _
  rcases (show p = 0 ∨ p = 1 ∨ p = 2 by omega) with rfl | rfl | rfl
  · repeat (first | (refine hP _ _ _ _ _ _ ?_; show P _ _ _ _ _ _) | (refine hP _ _ _ _ _ _ (And.intro (hN _ _ _ rfl) ?_); show P _ _ (aR _ _ :: _) _ _ _) | refine hP _ _ _ _ _ _ (And.intro (fun _ => ?_) (fun hc => absurd hc (by decide))) | refine hP _ _ _ _ _ _ (And.intro (fun hc => absurd hc (by decide)) (fun _ => ?_)))
    exact main none none
  · repeat (first | (refine hP _ _ _ _ _ _ ?_; show P _ _ _ _ _ _) | (refine hP _ _ _ _ _ _ (And.intro (hN _ _ _ rfl) ?_); show P _ _ (aR _ _ :: _) _ _ _) | refine hP _ _ _ _ _ _ (And.intro (fun _ => ?_) (fun hc => absurd hc (by decide))) | refine hP _ _ _ _ _ _ (And.intro (fun hc => absurd hc (by decide)) (fun _ => ?_)))
    refine hP _ _ _ _ _ _ (Exists.intro (0) (And.intro (And.intro (rfl) (by show 0 < 3; omega)) ?_))
    rw [hend 0 (by omega)]
    repeat (first | (refine hP _ _ _ _ _ _ ?_; show P _ _ _ _ _ _) | (refine hP _ _ _ _ _ _ (And.intro (hN _ _ _ rfl) ?_); show P _ _ (aR _ _ :: _) _ _ _) | refine hP _ _ _ _ _ _ (And.intro (fun _ => ?_) (fun hc => absurd hc (by decide))) | refine hP _ _ _ _ _ _ (And.intro (fun hc => absurd hc (by decide)) (fun _ => ?_)))
    exact main none none
  · repeat (first | (refine hP _ _ _ _ _ _ ?_; show P _ _ _ _ _ _) | (refine hP _ _ _ _ _ _ (And.intro (hN _ _ _ rfl) ?_); show P _ _ (aR _ _ :: _) _ _ _) | refine hP _ _ _ _ _ _ (And.intro (fun _ => ?_) (fun hc => absurd hc (by decide))) | refine hP _ _ _ _ _ _ (And.intro (fun hc => absurd hc (by decide)) (fun _ => ?_)))
    refine hP _ _ _ _ _ _ (Exists.intro (1) (And.intro (And.intro (rfl) (by show 1 < 3; omega)) ?_))
    rw [hend 1 (by omega)]
    repeat (first | (refine hP _ _ _ _ _ _ ?_; show P _ _ _ _ _ _) | (refine hP _ _ _ _ _ _ (And.intro (hN _ _ _ rfl) ?_); show P _ _ (aR _ _ :: _) _ _ _) | refine hP _ _ _ _ _ _ (And.intro (fun _ => ?_) (fun hc => absurd hc (by decide))) | refine hP _ _ _ _ _ _ (And.intro (fun hc => absurd hc (by decide)) (fun _ => ?_)))
    exact main none none
/-- the room as F says -/
def LW (S : St) (F : Fl) : Prop := FX tv0 1 S 0 F ∧ zB S 0 F.n ∧ STA S ∧ S.1 1 0 1 = nI 1
theorem wTH_F : okF wTH 0 := by
  intro j k hj
  simp only [wTH] at hj
  omega
theorem LW.th {S S' : St} {F : Fl} (h : LW S F) (h1 : Ag wTH S S') : LW S' F :=
  ⟨h.1.up h1 wTH_ok wTH_F, h.2.1.up h1 (fun j k z => by simp only [wTH] at z; omega), h.2.2.1.up h1 (fun j g k z => by simp only [wTH] at z; omega), by rw [h1.1 1 0 1 (by simp [wTH])]; exact h.2.2.2⟩
theorem wFl_ok : okW wFl := by
  intro j g k hj
  simp only [wFl] at hj
  omega
theorem LW.fl {S S' : St} {F F' : Fl} (h : LW S F) (h1 : Ag wFl S S') (hF : HF S' 0 F') (hz : zB S' 0 F'.n) (hW : WF 1 F') : LW S' F' :=
  ⟨⟨h.1.1.up h1 wFl_ok, hF, hW⟩, hz, h.2.2.1.up h1 (fun j g k z => by simp only [wFl] at z; omega), by rw [h1.1 1 0 1 (by simp [wFl])]; exact h.2.2.2⟩
/-- the same numbers -/
def SM (F G : Fl) : Prop := F.n = G.n ∧ F.rd = G.rd ∧ F.ni = G.ni ∧ F.ru = G.ru ∧ (∀ a, a < F.n → F.ki a = G.ki a ∧ F.nu a = G.nu a ∧ F.dn a = G.dn a) ∧ ∀ a b, a < F.n → b < F.n → F.ow a b = G.ow a b
theorem SM.hf {S : St} {f : Nat} {F G : Fl} (h : SM F G) (h1 : HF S f F) : HF S f G := by
  obtain ⟨e1, e2, e3, e4, e5, e6⟩ := h
  obtain ⟨a1, a2, a3, a4, a5, a6⟩ := h1
  refine ⟨by rw [← e1]; exact a1, by rw [← e2]; exact a2, by rw [← e3]; exact a3, by rw [← e4]; exact a4, fun a ha => ?_, fun a b ha hb => ?_⟩
  · rw [← e1] at ha
    obtain ⟨q1, q2, q3⟩ := e5 a ha
    rw [← q1, ← q2, ← q3]
    exact a5 a ha
  · rw [← e1] at ha hb
    rw [← e6 a b ha hb]
    exact a6 a b ha hb
theorem SM.wf {nT : Nat} {F G : Fl} (h : SM F G) (h1 : WF nT F) : WF nT G := by
  obtain ⟨e1, e2, e3, e4, e5, e6⟩ := h
  refine ⟨by rw [← e1]; exact h1.1, by rw [← e4]; exact h1.2.1, h1.2.2.1, fun a ha => ?_⟩
  rw [← e1] at ha
  obtain ⟨q1, q2, q3⟩ := e5 a ha
  obtain ⟨b1, b2, b3, b4⟩ := h1.2.2.2 a ha
  refine ⟨by rw [← q1]; exact b1, by rw [← q2]; exact b2, by rw [← q3]; exact b3, fun b hb => ?_⟩
  rw [← e1] at hb
  rw [← e6 a b ha hb]
  exact b4 b hb
theorem LW.sm {S : St} {F G : Fl} (h : LW S F) (hs : SM F G) : LW S G :=
  ⟨⟨h.1.1, hs.hf h.1.2.1, hs.wf h.1.2.2⟩, by rw [← hs.1]; exact h.2.1, h.2.2⟩
theorem law_LW {S0 S1 : St} (z0 : ∀ j g k, j < 60 → S0.1 j g k = 0) (n0 : ∀ j g k, S0.2.2.1 j g k = true) (sta : STA S0) (e1 : Ev wCC (mkC S0 0 0 0) S1) (a0 : NJ 0 0 S1) (a6 : NJ 6 0 S1) (a7 : NJ 7 0 S1) (a18 : NJ 18 0 S1) (a10 : ∀ g, g < 5 → NJ 10 g S1) (a20 : ∀ g, g < 4 → NJ 20 g S1) (r : rl0 S1) : LW S1 F00 := by
  have zero : ∀ j g k, j < 60 → ¬ nzW j g k → S1.1 j g k = 0 := fun j g k hj hz => e1.2.1 j g k hz ((Ev.mk (W := fun _ _ _ => True) (fun _ => trivial) Ev.rf : Ev (fun _ _ _ => True) S0 (mkC S0 0 0 0)).2.1 j g k hz (z0 j g k hj))
  have keepS : ∀ j k, 60 ≤ j → S1.1 j 0 k = S0.1 j 0 k := fun j k hj => by
    rw [(e1.1 j 0 k (fun z => by simp only [wCC] at z; omega)).1]
    show (if j = 0 ∧ 0 = 0 then (0 : Int32) else S0.1 j 0 k) = _
    rw [if_neg (by omega)]
  have hN : NN S1 := by
    intro j g k h
    by_cases c2 : wCC j g k
    · rcases nnrj h with rfl | rfl | rfl | rfl | rfl | rfl | rfl | rfl | rfl
      · have : g = 0 := by simp only [wCC] at c2; omega
        subst this
        exact a0 k h
      · have : g = 0 := by simp only [wCC] at c2; omega
        subst this
        exact r.1 k h
      · have : g = 0 := by simp only [wCC] at c2; omega
        subst this
        exact a6 k h
      · have : g = 0 := by simp only [wCC] at c2; omega
        subst this
        exact a7 k h
      · exact a10 g (by simp only [wCC] at c2; omega) k h
      · have : g = 0 := by simp only [wCC] at c2; omega
        subst this
        exact a18 k h
      · exact a20 g (by simp only [wCC] at c2; omega) k h
      · have : g = 0 := by simp only [wCC] at c2; omega
        subst this
        exact r.2.1 k h
      · simp only [wCC] at c2
        omega
    · exact (e1.1 j g k c2).2 (nn_mk (fun z => c2 (by simp only [wCC]; omega)) (n0 j g k))
  obtain ⟨r1, r2, r3, r4, r5, ⟨r6, r7, r8⟩, r9, r10, r11⟩ := r
  have st : STA S1 := ⟨fun k hk => by rw [keepS 61 k (by omega), keepS 62 k (by omega)]; exact sta.1 k hk, fun k hk => by rw [keepS 63 k (by omega)]; exact sta.2.1 k hk, fun k hk => by rw [keepS 64 k (by omega)]; exact sta.2.2.1 k hk, fun k hk => by rw [keepS 65 k (by omega)]; exact sta.2.2.2 k hk⟩
  have zz : ∀ j g k, j < 60 → (j = 0 ∨ j = 7 ∨ (10 ≤ j ∧ j ≤ 14)) → S1.1 j g k = 0 := fun j g k hj h => zero j g k hj (fun z => by simp only [nzW] at z; omega)
  have hF : HF S1 0 F00 := ⟨zz 10 0 1 (by omega) (by omega), zz 10 0 2 (by omega) (by omega), zz 10 0 3 (by omega) (by omega), zz 10 0 4 (by omega) (by omega), fun a ha => absurd ha (Nat.not_lt_zero a), fun a b ha => absurd ha (Nat.not_lt_zero a)⟩
  exact ⟨⟨⟨hN, RV0 hN r3 r4 r5 r6 r7 r8 r9 r10 r11, st.1, st.2.1⟩, hF, ⟨Nat.zero_le _, Nat.zero_lt_one, by omega, fun a ha => absurd ha (Nat.not_lt_zero a)⟩⟩, ⟨fun a _ _ => zz 13 0 a (by omega) (by omega), fun a b _ _ _ => zz 14 0 _ (by omega) (by omega)⟩, st, r5⟩
