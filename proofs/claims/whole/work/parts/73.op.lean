/-! set -/
def Fl.sNu (F : Fl) (a v : Nat) : Fl := mkF F.n F.rd F.ni F.ru F.ki (uN F.nu a v) F.dn F.ow
def Fl.sKi (F : Fl) (a v : Nat) : Fl := mkF F.n F.rd F.ni F.ru (uN F.ki a v) F.nu F.dn F.ow
theorem HF.sNu {S : St} {f : Nat} {F : Fl} (h : HF S f F) (a v : Nat) : HF (ivSet S 12 f a (nI v)) f (F.sNu a v) := by
  obtain ⟨a1, a2, a3, a4, a5, a6⟩ := h
  refine ⟨?_, ?_, ?_, ?_, fun x hx => ⟨?_, ?_, ?_⟩, fun x y hx hy => ?_⟩
  · rw [iv_ne (by omega)]; exact a1
  · rw [iv_ne (by omega)]; exact a2
  · rw [iv_ne (by omega)]; exact a3
  · rw [iv_ne (by omega)]; exact a4
  · rw [iv_ne (by omega)]; exact (a5 x hx).1
  · show _ = nI (uN F.nu a v x)
    unfold uN
    split
    · rename_i e
      rw [e, iv_at]
    · rename_i e
      rw [iv_ne (by omega)]
      exact (a5 x hx).2.1
  · rw [iv_ne (by omega)]; exact (a5 x hx).2.2
  · rw [iv_ne (by omega)]; exact a6 x y hx hy
theorem HF.sKi {S : St} {f : Nat} {F : Fl} (h : HF S f F) (a v : Nat) : HF (ivSet S 11 f a (nI v)) f (F.sKi a v) := by
  obtain ⟨a1, a2, a3, a4, a5, a6⟩ := h
  refine ⟨?_, ?_, ?_, ?_, fun x hx => ⟨?_, ?_, ?_⟩, fun x y hx hy => ?_⟩
  · rw [iv_ne (by omega)]; exact a1
  · rw [iv_ne (by omega)]; exact a2
  · rw [iv_ne (by omega)]; exact a3
  · rw [iv_ne (by omega)]; exact a4
  · show _ = nI (uN F.ki a v x)
    unfold uN
    split
    · rename_i e
      rw [e, iv_at]
    · rename_i e
      rw [iv_ne (by omega)]
      exact (a5 x hx).1
  · rw [iv_ne (by omega)]; exact (a5 x hx).2.1
  · rw [iv_ne (by omega)]; exact (a5 x hx).2.2
  · rw [iv_ne (by omega)]; exact a6 x y hx hy
theorem HM.sNu {S : St} {F : Fl} (h : HM S F) (a v : Nat) : HM (ivSet S 45 0 (2 * a) (nI v)) (F.sNu a v) := by
  obtain ⟨a1, a2, a3, a4, a5, a6⟩ := h
  refine ⟨?_, ?_, ?_, ?_, fun x hx => ⟨?_, ?_, ?_⟩, fun x y hx hy => ?_⟩
  · rw [iv_ne (by omega)]; exact a1
  · rw [iv_ne (by omega)]; exact a2
  · rw [iv_ne (by omega)]; exact a3
  · rw [iv_ne (by omega)]; exact a4
  · rw [iv_ne (by omega)]; exact (a5 x hx).1
  · show _ = nI (uN F.nu a v x)
    unfold uN
    split
    · rename_i e
      rw [e, iv_at]
    · rename_i e
      rw [iv_ne (by omega)]
      exact (a5 x hx).2.1
  · rw [iv_ne (by omega)]; exact (a5 x hx).2.2
  · rw [iv_ne (by omega)]; exact a6 x y hx hy
theorem HM.sKi {S : St} {F : Fl} (h : HM S F) (a v : Nat) : HM (ivSet S 44 0 a (nI v)) (F.sKi a v) := by
  obtain ⟨a1, a2, a3, a4, a5, a6⟩ := h
  refine ⟨?_, ?_, ?_, ?_, fun x hx => ⟨?_, ?_, ?_⟩, fun x y hx hy => ?_⟩
  · rw [iv_ne (by omega)]; exact a1
  · rw [iv_ne (by omega)]; exact a2
  · rw [iv_ne (by omega)]; exact a3
  · rw [iv_ne (by omega)]; exact a4
  · show _ = nI (uN F.ki a v x)
    unfold uN
    split
    · rename_i e
      rw [e, iv_at]
    · rename_i e
      rw [iv_ne (by omega)]
      exact (a5 x hx).1
  · rw [iv_ne (by omega)]; exact (a5 x hx).2.1
  · rw [iv_ne (by omega)]; exact (a5 x hx).2.2
  · rw [iv_ne (by omega)]; exact a6 x y hx hy
theorem WF.sNu {nT : Nat} {F : Fl} (h : WF nT F) (a : Nat) {v : Nat} (hv : v ≤ 9) : WF nT (F.sNu a v) := by
  refine ⟨h.1, h.2.1, h.2.2.1, fun x hx => ?_⟩
  obtain ⟨b1, b2', b3, b4⟩ := h.2.2.2 x hx
  refine ⟨b1, ?_, b3, b4⟩
  show uN F.nu a v x ≤ 9
  unfold uN
  split <;> omega
theorem WF.sKi {nT : Nat} {F : Fl} (h : WF nT F) (a : Nat) {v : Nat} (hv : v ≤ 5) : WF nT (F.sKi a v) := by
  refine ⟨h.1, h.2.1, h.2.2.1, fun x hx => ?_⟩
  obtain ⟨b1, b2', b3, b4⟩ := h.2.2.2 x hx
  refine ⟨?_, b2', b3, b4⟩
  show uN F.ki a v x ≤ 5
  unfold uN
  split <;> omega
/-- one thing of a floor laid -/
def stF (F : Fl) (w a b v : Nat) : Fl := match w with
  | 0 => F.sR v
  | 1 => F.sNi v
  | 2 => F.sNu a v
  | 3 => F.sD a v
  | 4 => F.sO a b v
  | 5 => F.sKi a v
  | _ => F.sRu v
def mLy : WW := fun j _ k => (j = 40 ∧ (k = 4 ∨ k = 7 ∨ k = 8)) ∨ (44 ≤ j ∧ j ≤ 46)
theorem n_lays {d w a b v : Nat} {S : St} {K : KT} {F : Fl} {x : Int32} (hd : 2 ≤ d) (hN : NN S) (hM : HM S F) (hn5 : F.n ≤ 5) (hw : w ≤ 6) (ha : w = 2 ∨ w = 3 ∨ w = 5 → a < F.n ∧ x = nI a) (hq : w = 4 → dpx F.n x = some (a, b)) (h : ∀ S', Ag mLy S S' → HM S' (stF F w a b v) → K none S') : Call d m_X6_lays [aR 40 0, aI (nI w), aI x, aI (nI v)] S K := by
  refine Call.of (k := 1) hd (fun e he P hP => ?_)
  repeat (first | (refine hP _ _ _ _ _ _ ?_; show P _ _ _ _ _ _) | (refine hP _ _ _ _ _ _ (And.intro (hN _ _ _ rfl) ?_); show P _ _ (aR _ _ :: _) _ _ _))
  rcases (show w = 0 ∨ w = 1 ∨ w = 2 ∨ w = 3 ∨ w = 4 ∨ w = 5 ∨ w = 6 by omega) with rfl | rfl | rfl | rfl | rfl | rfl | rfl
  · have e8 : (ivSet S 40 0 7 (nI v)).1 40 0 8 = nI F.ni := by rw [iv_ne (by omega)]; exact hM.2.2.1
    repeat (first | (refine hP _ _ _ _ _ _ ?_; show P _ _ _ _ _ _) | (refine hP _ _ _ _ _ _ (And.intro (hN _ _ _ rfl) ?_); show P _ _ (aR _ _ :: _) _ _ _) | refine hP _ _ _ _ _ _ (And.intro (fun _ => ?_) (fun hc => absurd hc (by decide))) | refine hP _ _ _ _ _ _ (And.intro (fun hc => absurd hc (by decide)) (fun _ => ?_)))
    rw [e8]
    repeat (first | (refine hP _ _ _ _ _ _ ?_; show P _ _ _ _ _ _) | (refine hP _ _ _ _ _ _ (And.intro (hN _ _ _ rfl) ?_); show P _ _ (aR _ _ :: _) _ _ _) | refine hP _ _ _ _ _ _ (And.intro (fun _ => ?_) (fun hc => absurd hc (by decide))) | refine hP _ _ _ _ _ _ (And.intro (fun hc => absurd hc (by decide)) (fun _ => ?_)))
    exact hP _ _ _ _ _ _ (h _ ((Ag.iv (by simp [mLy])).tr (Ag.iv (by simp [mLy]))) ((hM.sR v).sNi F.ni))
  · have e8 : S.1 40 0 7 = nI F.rd := hM.2.1
    repeat (first | (refine hP _ _ _ _ _ _ ?_; show P _ _ _ _ _ _) | (refine hP _ _ _ _ _ _ (And.intro (hN _ _ _ rfl) ?_); show P _ _ (aR _ _ :: _) _ _ _) | refine hP _ _ _ _ _ _ (And.intro (fun _ => ?_) (fun hc => absurd hc (by decide))) | refine hP _ _ _ _ _ _ (And.intro (fun hc => absurd hc (by decide)) (fun _ => ?_)))
    rw [e8]
    repeat (first | (refine hP _ _ _ _ _ _ ?_; show P _ _ _ _ _ _) | (refine hP _ _ _ _ _ _ (And.intro (hN _ _ _ rfl) ?_); show P _ _ (aR _ _ :: _) _ _ _) | refine hP _ _ _ _ _ _ (And.intro (fun _ => ?_) (fun hc => absurd hc (by decide))) | refine hP _ _ _ _ _ _ (And.intro (fun hc => absurd hc (by decide)) (fun _ => ?_)))
    exact hP _ _ _ _ _ _ (h _ ((Ag.iv (by simp [mLy])).tr (Ag.iv (by simp [mLy]))) ((hM.sR F.rd).sNi v))
  · obtain ⟨ha, rfl⟩ := ha (by omega)
    repeat (first | (refine hP _ _ _ _ _ _ ?_; show P _ _ _ _ _ _) | (refine hP _ _ _ _ _ _ (And.intro (hN _ _ _ rfl) ?_); show P _ _ (aR _ _ :: _) _ _ _) | refine hP _ _ _ _ _ _ (And.intro (fun _ => ?_) (fun hc => absurd hc (by decide))) | refine hP _ _ _ _ _ _ (And.intro (fun hc => absurd hc (by decide)) (fun _ => ?_)))
    rw [show (2 : Int32) * nI a + nI 2 - 2 = 2 * nI a from Int32.add_sub_cancel _ _]
    refine hP _ _ _ _ _ _ (Exists.intro (2 * a) (And.intro (And.intro (jx2 a) (by show 2 * a < 10; omega)) ?_))
    repeat (first | (refine hP _ _ _ _ _ _ ?_; show P _ _ _ _ _ _) | (refine hP _ _ _ _ _ _ (And.intro (hN _ _ _ rfl) ?_); show P _ _ (aR _ _ :: _) _ _ _))
    exact hP _ _ _ _ _ _ (h _ (Ag.iv (by simp [mLy])) (hM.sNu a v))
  · obtain ⟨ha, rfl⟩ := ha (by omega)
    repeat (first | (refine hP _ _ _ _ _ _ ?_; show P _ _ _ _ _ _) | (refine hP _ _ _ _ _ _ (And.intro (hN _ _ _ rfl) ?_); show P _ _ (aR _ _ :: _) _ _ _) | refine hP _ _ _ _ _ _ (And.intro (fun _ => ?_) (fun hc => absurd hc (by decide))) | refine hP _ _ _ _ _ _ (And.intro (fun hc => absurd hc (by decide)) (fun _ => ?_)))
    rw [show (2 : Int32) * nI a + nI 3 - 2 = nI (2 * a + 1) from by rw [jx2, show nI 3 = nI (1 + 2) from rfl, nI_add, show 2 * a + (1 + 2) = (2 * a + 1) + 1 + 1 by omega, show nI (2 * a + 1 + 1 + 1) - 2 = (nI (2 * a + 1 + 1 + 1) - 1) - 1 from by rw [Int32.sub_sub]; rfl, nI_pred, nI_pred]]
    refine hP _ _ _ _ _ _ (Exists.intro (2 * a + 1) (And.intro (And.intro (rfl) (by show 2 * a + 1 < 10; omega)) ?_))
    repeat (first | (refine hP _ _ _ _ _ _ ?_; show P _ _ _ _ _ _) | (refine hP _ _ _ _ _ _ (And.intro (hN _ _ _ rfl) ?_); show P _ _ (aR _ _ :: _) _ _ _))
    exact hP _ _ _ _ _ _ (h _ (Ag.iv (by simp [mLy])) (hM.sD a v))
  · have hq := hq rfl
    obtain ⟨q1, q2, q3⟩ := dpx_lt hq
    repeat (first | (refine hP _ _ _ _ _ _ ?_; show P _ _ _ _ _ _) | (refine hP _ _ _ _ _ _ (And.intro (hN _ _ _ rfl) ?_); show P _ _ (aR _ _ :: _) _ _ _) | refine hP _ _ _ _ _ _ (And.intro (fun _ => ?_) (fun hc => absurd hc (by decide))) | refine hP _ _ _ _ _ _ (And.intro (fun hc => absurd hc (by decide)) (fun _ => ?_)))
    refine hP _ _ _ _ _ _ (n_placeOf (by omega) hq ?_)
    repeat (first | (refine hP _ _ _ _ _ _ ?_; show P _ _ _ _ _ _) | (refine hP _ _ _ _ _ _ (And.intro (hN _ _ _ rfl) ?_); show P _ _ (aR _ _ :: _) _ _ _))
    refine hP _ _ _ _ _ _ (Exists.intro (5 * a + b) (And.intro (And.intro (rfl) (by show 5 * a + b < 25; simp only at q1 q2; omega)) ?_))
    repeat (first | (refine hP _ _ _ _ _ _ ?_; show P _ _ _ _ _ _) | (refine hP _ _ _ _ _ _ (And.intro (hN _ _ _ rfl) ?_); show P _ _ (aR _ _ :: _) _ _ _))
    exact hP _ _ _ _ _ _ (h _ (Ag.iv (by simp [mLy])) (hM.sO hn5 a b v q2))
  · obtain ⟨ha, rfl⟩ := ha (by omega)
    repeat (first | (refine hP _ _ _ _ _ _ ?_; show P _ _ _ _ _ _) | (refine hP _ _ _ _ _ _ (And.intro (hN _ _ _ rfl) ?_); show P _ _ (aR _ _ :: _) _ _ _) | refine hP _ _ _ _ _ _ (And.intro (fun _ => ?_) (fun hc => absurd hc (by decide))) | refine hP _ _ _ _ _ _ (And.intro (fun hc => absurd hc (by decide)) (fun _ => ?_)))
    refine hP _ _ _ _ _ _ (Exists.intro (a) (And.intro (And.intro (rfl) (by show a < 5; omega)) ?_))
    repeat (first | (refine hP _ _ _ _ _ _ ?_; show P _ _ _ _ _ _) | (refine hP _ _ _ _ _ _ (And.intro (hN _ _ _ rfl) ?_); show P _ _ (aR _ _ :: _) _ _ _))
    exact hP _ _ _ _ _ _ (h _ (Ag.iv (by simp [mLy])) (hM.sKi a v))
  · repeat (first | (refine hP _ _ _ _ _ _ ?_; show P _ _ _ _ _ _) | (refine hP _ _ _ _ _ _ (And.intro (hN _ _ _ rfl) ?_); show P _ _ (aR _ _ :: _) _ _ _) | refine hP _ _ _ _ _ _ (And.intro (fun _ => ?_) (fun hc => absurd hc (by decide))) | refine hP _ _ _ _ _ _ (And.intro (fun hc => absurd hc (by decide)) (fun _ => ?_)))
    exact hP _ _ _ _ _ _ (h _ (Ag.iv (by simp [mLy])) (hM.sRu v))
theorem n_mostOf {d w : Nat} {S : St} {K : KT} (hd : 1 ≤ d) (hw : w ≤ 4) (h : K (some (aI (nI (grN w)))) S) : Call d m_X6_mostOf [aI (nI w)] S K := by
  refine Call.of (k := 0) hd (fun e he P hP => ?_)
  have hN : True := trivial
  rcases (show w = 0 ∨ w = 1 ∨ w = 2 ∨ w = 3 ∨ w = 4 by omega) with rfl | rfl | rfl | rfl | rfl
  · repeat (first | (refine hP _ _ _ _ _ _ ?_; show P _ _ _ _ _ _) | (refine hP _ _ _ _ _ _ (And.intro (hN _ _ _ rfl) ?_); show P _ _ (aR _ _ :: _) _ _ _) | refine hP _ _ _ _ _ _ (And.intro (fun _ => ?_) (fun hc => absurd hc (by decide))) | refine hP _ _ _ _ _ _ (And.intro (fun hc => absurd hc (by decide)) (fun _ => ?_)))
    exact hP _ _ _ _ _ _ (h)
  · repeat (first | (refine hP _ _ _ _ _ _ ?_; show P _ _ _ _ _ _) | (refine hP _ _ _ _ _ _ (And.intro (hN _ _ _ rfl) ?_); show P _ _ (aR _ _ :: _) _ _ _) | refine hP _ _ _ _ _ _ (And.intro (fun _ => ?_) (fun hc => absurd hc (by decide))) | refine hP _ _ _ _ _ _ (And.intro (fun hc => absurd hc (by decide)) (fun _ => ?_)))
    exact hP _ _ _ _ _ _ (h)
  · repeat (first | (refine hP _ _ _ _ _ _ ?_; show P _ _ _ _ _ _) | (refine hP _ _ _ _ _ _ (And.intro (hN _ _ _ rfl) ?_); show P _ _ (aR _ _ :: _) _ _ _) | refine hP _ _ _ _ _ _ (And.intro (fun _ => ?_) (fun hc => absurd hc (by decide))) | refine hP _ _ _ _ _ _ (And.intro (fun hc => absurd hc (by decide)) (fun _ => ?_)))
    exact hP _ _ _ _ _ _ (h)
  · repeat (first | (refine hP _ _ _ _ _ _ ?_; show P _ _ _ _ _ _) | (refine hP _ _ _ _ _ _ (And.intro (hN _ _ _ rfl) ?_); show P _ _ (aR _ _ :: _) _ _ _) | refine hP _ _ _ _ _ _ (And.intro (fun _ => ?_) (fun hc => absurd hc (by decide))) | refine hP _ _ _ _ _ _ (And.intro (fun hc => absurd hc (by decide)) (fun _ => ?_)))
    exact hP _ _ _ _ _ _ (h)
  · repeat (first | (refine hP _ _ _ _ _ _ ?_; show P _ _ _ _ _ _) | (refine hP _ _ _ _ _ _ (And.intro (hN _ _ _ rfl) ?_); show P _ _ (aR _ _ :: _) _ _ _) | refine hP _ _ _ _ _ _ (And.intro (fun _ => ?_) (fun hc => absurd hc (by decide))) | refine hP _ _ _ _ _ _ (And.intro (fun hc => absurd hc (by decide)) (fun _ => ?_)))
    exact hP _ _ _ _ _ _ (h)
theorem tdI_ok {tv : TV} {nT w : Nat} {F : Fl} {x : Int32} (hw : w ≤ 4) (hW : WF nT F) (h1 : F.rd ≤ 999) (h2 : F.ni ≤ 999) (h : isOfB F.n w x = true) : ∃ m, m ≤ 999 ∧ tdI tv F x w = nI m := by
  rcases (show w = 0 ∨ w = 1 ∨ w = 2 ∨ w = 3 ∨ w = 4 by omega) with rfl | rfl | rfl | rfl | rfl
  · exact ⟨F.rd, h1, rfl⟩
  · exact ⟨F.ni, h2, rfl⟩
  · have h : isD F.n x = true := h
    obtain ⟨a, ha, ha2, rfl⟩ := isD_of h
    have := (hW.2.2.2 a ha).2.1
    exact ⟨F.nu a, by omega, by simp [tdI, h, nI_clamp ha2]⟩
  · have h : isD F.n x = true := h
    obtain ⟨a, ha, ha2, rfl⟩ := isD_of h
    have := hW.dn ha
    exact ⟨F.dn a, by omega, by simp [tdI, h, nI_clamp ha2]⟩
  · have h : (dpx F.n x).isSome = true := h
    cases e : dpx F.n x with
    | none => rw [e] at h; cases h
    | some q =>
      obtain ⟨q1, q2, q3⟩ := dpx_lt e
      have := hW.ow q1 q2
      exact ⟨F.ow q.1 q.2, by omega, by simp [tdI, e]⟩
theorem isOf_ex {n w : Nat} {x : Int32} (hw : w ≤ 4) (h : isOfB n w x = true) : ∃ a b, (w = 2 ∨ w = 3 → a < n ∧ x = nI a) ∧ (w = 4 → dpx n x = some (a, b)) := by
  rcases (show w = 0 ∨ w = 1 ∨ w = 2 ∨ w = 3 ∨ w = 4 by omega) with rfl | rfl | rfl | rfl | rfl
  · exact ⟨0, 0, fun z => by omega, fun z => by omega⟩
  · exact ⟨0, 0, fun z => by omega, fun z => by omega⟩
  · obtain ⟨a, ha, ha2, rfl⟩ := isD_of (show isD n x = true from h)
    exact ⟨a, 0, fun _ => ⟨ha, rfl⟩, fun z => by omega⟩
  · obtain ⟨a, ha, ha2, rfl⟩ := isD_of (show isD n x = true from h)
    exact ⟨a, 0, fun _ => ⟨ha, rfl⟩, fun z => by omega⟩
  · have h : (dpx n x).isSome = true := h
    cases e : dpx n x with
    | none => rw [e] at h; cases h
    | some q => exact ⟨q.1, q.2, fun z => by omega, fun _ => rfl⟩
def seB (n : Nat) (w x v : Int32) : Prop := isD 5 w = false ∨ ∃ k, k ≤ 4 ∧ w = nI k ∧ (isD (grN k + 1) v = false ∨ (isD (grN k + 1) v = true ∧ isOfB n k x = false))
theorem grN_le : ∀ k, k ≤ 4 → grN k ≤ 999 := by decide
theorem n_set_bad {tv : TV} {nT d : Nat} {S : St} {K : KT} {F : Fl} {w x v : Int32} (hd : 150 ≤ d) (hX : MX tv nT S F) (hb : seB F.n w x v) (h : K (some (aI (-2))) S) : Call d m_X6_set [aR 40 0, aI w, aI x, aI v] S K := by
  refine Call.of (k := 149) hd (fun e he P hP => ?_)
  have hN := hX.1.1
  have hn5 := hX.2.2.1
  have h12 := hX.2.1.1
  repeat (first | (refine hP _ _ _ _ _ _ ?_; show P _ _ _ _ _ _) | (refine hP _ _ _ _ _ _ (And.intro (hN _ _ _ rfl) ?_); show P _ _ (aR _ _ :: _) _ _ _))
  refine hP _ _ _ _ _ _ (n_in0 (m := 4) (by omega) (by omega) ?_)
  rcases hb with z | ⟨k, hk, rfl, hb⟩
  · rw [z]
    repeat (first | (refine hP _ _ _ _ _ _ ?_; show P _ _ _ _ _ _) | (refine hP _ _ _ _ _ _ (And.intro (hN _ _ _ rfl) ?_); show P _ _ (aR _ _ :: _) _ _ _) | refine hP _ _ _ _ _ _ (And.intro (fun _ => ?_) (fun hc => absurd hc (by decide))) | refine hP _ _ _ _ _ _ (And.intro (fun hc => absurd hc (by decide)) (fun _ => ?_)))
    exact hP _ _ _ _ _ _ (h)
  · have hg := grN_le k hk
    rw [isD_N (by omega) (by omega), decide_eq_true (by omega)]
    repeat (first | (refine hP _ _ _ _ _ _ ?_; show P _ _ _ _ _ _) | (refine hP _ _ _ _ _ _ (And.intro (hN _ _ _ rfl) ?_); show P _ _ (aR _ _ :: _) _ _ _) | refine hP _ _ _ _ _ _ (And.intro (fun _ => ?_) (fun hc => absurd hc (by decide))) | refine hP _ _ _ _ _ _ (And.intro (fun hc => absurd hc (by decide)) (fun _ => ?_)))
    refine hP _ _ _ _ _ _ (n_isOf (by omega) h12 hn5 (by omega) ?_)
    cases ho : isOfB F.n k x with
    | false =>
      repeat (first | (refine hP _ _ _ _ _ _ ?_; show P _ _ _ _ _ _) | (refine hP _ _ _ _ _ _ (And.intro (hN _ _ _ rfl) ?_); show P _ _ (aR _ _ :: _) _ _ _) | refine hP _ _ _ _ _ _ (And.intro (fun _ => ?_) (fun hc => absurd hc (by decide))) | refine hP _ _ _ _ _ _ (And.intro (fun hc => absurd hc (by decide)) (fun _ => ?_)))
      exact hP _ _ _ _ _ _ (h)
    | true =>
      repeat (first | (refine hP _ _ _ _ _ _ ?_; show P _ _ _ _ _ _) | (refine hP _ _ _ _ _ _ (And.intro (hN _ _ _ rfl) ?_); show P _ _ (aR _ _ :: _) _ _ _) | refine hP _ _ _ _ _ _ (And.intro (fun _ => ?_) (fun hc => absurd hc (by decide))) | refine hP _ _ _ _ _ _ (And.intro (fun hc => absurd hc (by decide)) (fun _ => ?_)))
      refine hP _ _ _ _ _ _ (n_mostOf (by omega) hk ?_)
      repeat (first | (refine hP _ _ _ _ _ _ ?_; show P _ _ _ _ _ _) | (refine hP _ _ _ _ _ _ (And.intro (hN _ _ _ rfl) ?_); show P _ _ (aR _ _ :: _) _ _ _))
      rw [nI_l (by omega)]
      refine hP _ _ _ _ _ _ (n_in0 (m := grN k) (by omega) (by omega) ?_)
      rcases hb with z | ⟨_, z⟩
      · rw [z]
        repeat (first | (refine hP _ _ _ _ _ _ ?_; show P _ _ _ _ _ _) | (refine hP _ _ _ _ _ _ (And.intro (hN _ _ _ rfl) ?_); show P _ _ (aR _ _ :: _) _ _ _) | refine hP _ _ _ _ _ _ (And.intro (fun _ => ?_) (fun hc => absurd hc (by decide))) | refine hP _ _ _ _ _ _ (And.intro (fun hc => absurd hc (by decide)) (fun _ => ?_)))
        exact hP _ _ _ _ _ _ (h)
      · rw [ho] at z
        cases z
theorem n_setx {tv : TV} {nT d w a b v : Nat} {S : St} {K : KT} {F : Fl} {x : Int32} (hd : 150 ≤ d) (hX : MX tv nT S F) (hw : w ≤ 4) (hv : v ≤ grN w) (ho : isOfB F.n w x = true) (ha : w = 2 ∨ w = 3 → a < F.n ∧ x = nI a) (hq : w = 4 → dpx F.n x = some (a, b)) (h : ∀ S', Ag mFl S S' → HM S' (stF F w a b v) → K (some (aI (tdI tv F x w))) S') : Call d m_X6_set [aR 40 0, aI (nI w), aI x, aI (nI v)] S K := by
  refine Call.of (k := 149) hd (fun e he P hP => ?_)
  have hN := hX.1.1
  have hn5 := hX.2.2.1
  have h12 := hX.2.1.1
  have hg := grN_le w hw
  repeat (first | (refine hP _ _ _ _ _ _ ?_; show P _ _ _ _ _ _) | (refine hP _ _ _ _ _ _ (And.intro (hN _ _ _ rfl) ?_); show P _ _ (aR _ _ :: _) _ _ _))
  refine hP _ _ _ _ _ _ (n_in0 (m := 4) (by omega) (by omega) ?_)
  rw [isD_N (by omega) (by omega), decide_eq_true (by omega)]
  repeat (first | (refine hP _ _ _ _ _ _ ?_; show P _ _ _ _ _ _) | (refine hP _ _ _ _ _ _ (And.intro (hN _ _ _ rfl) ?_); show P _ _ (aR _ _ :: _) _ _ _) | refine hP _ _ _ _ _ _ (And.intro (fun _ => ?_) (fun hc => absurd hc (by decide))) | refine hP _ _ _ _ _ _ (And.intro (fun hc => absurd hc (by decide)) (fun _ => ?_)))
  refine hP _ _ _ _ _ _ (n_isOf (by omega) h12 hn5 (by omega) ?_)
  rw [ho]
  repeat (first | (refine hP _ _ _ _ _ _ ?_; show P _ _ _ _ _ _) | (refine hP _ _ _ _ _ _ (And.intro (hN _ _ _ rfl) ?_); show P _ _ (aR _ _ :: _) _ _ _) | refine hP _ _ _ _ _ _ (And.intro (fun _ => ?_) (fun hc => absurd hc (by decide))) | refine hP _ _ _ _ _ _ (And.intro (fun hc => absurd hc (by decide)) (fun _ => ?_)))
  refine hP _ _ _ _ _ _ (n_mostOf (by omega) hw ?_)
  repeat (first | (refine hP _ _ _ _ _ _ ?_; show P _ _ _ _ _ _) | (refine hP _ _ _ _ _ _ (And.intro (hN _ _ _ rfl) ?_); show P _ _ (aR _ _ :: _) _ _ _))
  rw [nI_l (n := grN w) (by omega)]
  refine hP _ _ _ _ _ _ (n_in0 (m := grN w) (by omega) (by omega) ?_)
  rw [isD_N (by omega) (by omega), decide_eq_true (by omega)]
  repeat (first | (refine hP _ _ _ _ _ _ ?_; show P _ _ _ _ _ _) | (refine hP _ _ _ _ _ _ (And.intro (hN _ _ _ rfl) ?_); show P _ _ (aR _ _ :: _) _ _ _) | refine hP _ _ _ _ _ _ (And.intro (fun _ => ?_) (fun hc => absurd hc (by decide))) | refine hP _ _ _ _ _ _ (And.intro (fun hc => absurd hc (by decide)) (fun _ => ?_)))
  refine hP _ _ _ _ _ _ (n_told (by omega) hX (by omega) (fun S1 g1 => ?_))
  have hX1 := hX.sc g1
  repeat (first | (refine hP _ _ _ _ _ _ ?_; show P _ _ _ _ _ _) | (refine hP _ _ _ _ _ _ (And.intro (hN _ _ _ rfl) ?_); show P _ _ (aR _ _ :: _) _ _ _))
  refine hP _ _ _ _ _ _ (n_lays (by omega) hX1.1.1 hX1.2.1 hn5 (by omega) (fun z => ha (by omega)) hq (fun S2 g2 hM2 => ?_))
  repeat (first | (refine hP _ _ _ _ _ _ ?_; show P _ _ _ _ _ _) | (refine hP _ _ _ _ _ _ (And.intro (hN _ _ _ rfl) ?_); show P _ _ (aR _ _ :: _) _ _ _))
  exact hP _ _ _ _ _ _ (h S2 ((g1.mono (fun j g k z => by simp only [m0] at z; simp only [mFl]; omega)).tr (g2.mono (fun j g k z => by simp only [mLy] at z; simp only [mFl]; omega))) hM2)
theorem c_set_bad {tv : TV} {nT d : Nat} {S : St} {K : KT} {F : Fl} {w x v : Int32} (hd : 150 ≤ d) (hX : FX tv nT S 0 F) (hs : STA S) (hb : seB F.n w x v) (h : ∀ S', Ag w0 S S' → K (some (aI (-2))) S') : Call d m_X5_set [aR 0 0, aI w, aI x, aI v] S K := by
  refine Call.of (k := 149) hd (fun e he P hP => ?_)
  have hN := hX.1.1
  have h0' := h S (Ag.rf _ _)
  repeat (first | (refine hP _ _ _ _ _ _ ?_; show P _ _ _ _ _ _) | (refine hP _ _ _ _ _ _ (And.intro (hN _ _ _ rfl) ?_); show P _ _ (aR _ _ :: _) _ _ _))
  rcases rng (x := w) (n := 5) (by omega) with ⟨hf, h0 | ⟨h0, h1⟩⟩ | ⟨k, hk, hf, rfl⟩
  · refine hP _ _ _ _ _ _ (And.intro (fun _ => ?_) (fun hc => absurd h0 hc))
    repeat (first | (refine hP _ _ _ _ _ _ ?_; show P _ _ _ _ _ _) | (refine hP _ _ _ _ _ _ (And.intro (hN _ _ _ rfl) ?_); show P _ _ (aR _ _ :: _) _ _ _))
    exact hP _ _ _ _ _ _ (h0')
  · refine hP _ _ _ _ _ _ (And.intro (fun hc => absurd hc h0) (fun _ => ?_))
    repeat (first | (refine hP _ _ _ _ _ _ ?_; show P _ _ _ _ _ _) | (refine hP _ _ _ _ _ _ (And.intro (hN _ _ _ rfl) ?_); show P _ _ (aR _ _ :: _) _ _ _))
    refine hP _ _ _ _ _ _ (And.intro (fun _ => ?_) (fun hc => absurd h1 hc))
    repeat (first | (refine hP _ _ _ _ _ _ ?_; show P _ _ _ _ _ _) | (refine hP _ _ _ _ _ _ (And.intro (hN _ _ _ rfl) ?_); show P _ _ (aR _ _ :: _) _ _ _))
    exact hP _ _ _ _ _ _ (h0')
  · have hg := grN_le k (by omega)
    have hb : isD (grN k + 1) v = false ∨ (isD (grN k + 1) v = true ∧ isOfB F.n k x = false) := by
      rcases hb with z | ⟨k', hk', e', z⟩
      · rw [hf] at z
        cases z
      · rw [(nI_eq (by omega) (by omega)).mp e']
        exact z
    refine hP _ _ _ _ _ _ (And.intro (fun hc => absurd hc (nI_pos (by omega))) (fun _ => ?_))
    repeat (first | (refine hP _ _ _ _ _ _ ?_; show P _ _ _ _ _ _) | (refine hP _ _ _ _ _ _ (And.intro (hN _ _ _ rfl) ?_); show P _ _ (aR _ _ :: _) _ _ _))
    refine hP _ _ _ _ _ _ (And.intro (fun hc => absurd hc (nI_ge (b := 5) hk (by omega))) (fun _ => ?_))
    repeat (first | (refine hP _ _ _ _ _ _ ?_; show P _ _ _ _ _ _) | (refine hP _ _ _ _ _ _ (And.intro (hN _ _ _ rfl) ?_); show P _ _ (aR _ _ :: _) _ _ _))
    rcases rng (x := v) (n := grN k + 1) (by omega) with ⟨hf2, h0 | ⟨h0, h1⟩⟩ | ⟨u, hu, hf2, rfl⟩
    · refine hP _ _ _ _ _ _ (And.intro (fun _ => ?_) (fun hc => absurd h0 hc))
      repeat (first | (refine hP _ _ _ _ _ _ ?_; show P _ _ _ _ _ _) | (refine hP _ _ _ _ _ _ (And.intro (hN _ _ _ rfl) ?_); show P _ _ (aR _ _ :: _) _ _ _))
      exact hP _ _ _ _ _ _ (h0')
    · refine hP _ _ _ _ _ _ (And.intro (fun hc => absurd hc h0) (fun _ => ?_))
      repeat (first | (refine hP _ _ _ _ _ _ ?_; show P _ _ _ _ _ _) | (refine hP _ _ _ _ _ _ (And.intro (hN _ _ _ rfl) ?_); show P _ _ (aR _ _ :: _) _ _ _))
      refine hP _ _ _ _ _ _ (Exists.intro (k) (And.intro (And.intro (rfl) (show k < 5 from hk)) ?_))
      rw [hs.2.2.1 k hk]
      repeat (first | (refine hP _ _ _ _ _ _ ?_; show P _ _ _ _ _ _) | (refine hP _ _ _ _ _ _ (And.intro (hN _ _ _ rfl) ?_); show P _ _ (aR _ _ :: _) _ _ _))
      refine hP _ _ _ _ _ _ (And.intro (fun hc => absurd (Int32.le_trans h1 hc) (nI_ge (a := grN k) (b := grN k + 1) (by omega) (by omega))) (fun _ => ?_))
      repeat (first | (refine hP _ _ _ _ _ _ ?_; show P _ _ _ _ _ _) | (refine hP _ _ _ _ _ _ (And.intro (hN _ _ _ rfl) ?_); show P _ _ (aR _ _ :: _) _ _ _))
      exact hP _ _ _ _ _ _ (h0')
    · rw [hf2] at hb
      obtain ⟨_, ho⟩ := hb.resolve_left (by decide)
      refine hP _ _ _ _ _ _ (And.intro (fun hc => absurd hc (nI_pos (by omega))) (fun _ => ?_))
      repeat (first | (refine hP _ _ _ _ _ _ ?_; show P _ _ _ _ _ _) | (refine hP _ _ _ _ _ _ (And.intro (hN _ _ _ rfl) ?_); show P _ _ (aR _ _ :: _) _ _ _))
      refine hP _ _ _ _ _ _ (Exists.intro (k) (And.intro (And.intro (rfl) (show k < 5 from hk)) ?_))
      rw [hs.2.2.1 k hk]
      repeat (first | (refine hP _ _ _ _ _ _ ?_; show P _ _ _ _ _ _) | (refine hP _ _ _ _ _ _ (And.intro (hN _ _ _ rfl) ?_); show P _ _ (aR _ _ :: _) _ _ _))
      refine hP _ _ _ _ _ _ (And.intro (fun _ => ?_) (fun hc => absurd (nI_le (a := u) (b := grN k) (by omega) (by omega)) hc))
      repeat (first | (refine hP _ _ _ _ _ _ ?_; show P _ _ _ _ _ _) | (refine hP _ _ _ _ _ _ (And.intro (hN _ _ _ rfl) ?_); show P _ _ (aR _ _ :: _) _ _ _))
      refine hP _ _ _ _ _ _ (c_told (by omega) hX (by omega) (fun S1 g1 => ?_))
      have h1' := h S1 g1
      rw [tdI_bad (by omega) ho]
      repeat (first | (refine hP _ _ _ _ _ _ ?_; show P _ _ _ _ _ _) | (refine hP _ _ _ _ _ _ (And.intro (hN _ _ _ rfl) ?_); show P _ _ (aR _ _ :: _) _ _ _))
      refine hP _ _ _ _ _ _ (And.intro (fun hc => absurd hc (by decide)) (fun _ => ?_))
      repeat (first | (refine hP _ _ _ _ _ _ ?_; show P _ _ _ _ _ _) | (refine hP _ _ _ _ _ _ (And.intro (hN _ _ _ rfl) ?_); show P _ _ (aR _ _ :: _) _ _ _))
      exact hP _ _ _ _ _ _ (h1')
theorem c_setx {tv : TV} {nT d w a b v : Nat} {S : St} {K : KT} {F : Fl} {x : Int32} (hd : 150 ≤ d) (hX : FX tv nT S 0 F) (hs : STA S) (hz : zB S 0 F.n) (h1 : F.rd ≤ 999) (h2 : F.ni ≤ 999) (hw : w ≤ 4) (hv : v ≤ grN w) (ho : isOfB F.n w x = true) (ha : w = 2 ∨ w = 3 → a < F.n ∧ x = nI a) (hq : w = 4 → dpx F.n x = some (a, b)) (h : ∀ S', Ag wFl S S' → HF S' 0 (stF F w a b v) → zB S' 0 F.n → K (some (aI (tdI tv F x w))) S') : Call d m_X5_set [aR 0 0, aI (nI w), aI x, aI (nI v)] S K := by
  refine Call.of (k := 149) hd (fun e he P hP => ?_)
  have hN := hX.1.1
  have hn5 := hX.2.2.1
  have hg := grN_le w hw
  repeat (first | (refine hP _ _ _ _ _ _ ?_; show P _ _ _ _ _ _) | (refine hP _ _ _ _ _ _ (And.intro (hN _ _ _ rfl) ?_); show P _ _ (aR _ _ :: _) _ _ _))
  refine hP _ _ _ _ _ _ (And.intro (fun hc => absurd hc (nI_pos (by omega))) (fun _ => ?_))
  repeat (first | (refine hP _ _ _ _ _ _ ?_; show P _ _ _ _ _ _) | (refine hP _ _ _ _ _ _ (And.intro (hN _ _ _ rfl) ?_); show P _ _ (aR _ _ :: _) _ _ _))
  refine hP _ _ _ _ _ _ (And.intro (fun hc => absurd hc (nI_ge (a := w) (b := 5) (by omega) (by omega))) (fun _ => ?_))
  repeat (first | (refine hP _ _ _ _ _ _ ?_; show P _ _ _ _ _ _) | (refine hP _ _ _ _ _ _ (And.intro (hN _ _ _ rfl) ?_); show P _ _ (aR _ _ :: _) _ _ _))
  refine hP _ _ _ _ _ _ (And.intro (fun hc => absurd hc (nI_pos (by omega))) (fun _ => ?_))
  repeat (first | (refine hP _ _ _ _ _ _ ?_; show P _ _ _ _ _ _) | (refine hP _ _ _ _ _ _ (And.intro (hN _ _ _ rfl) ?_); show P _ _ (aR _ _ :: _) _ _ _))
  refine hP _ _ _ _ _ _ (Exists.intro (w) (And.intro (And.intro (rfl) (by show w < 5; omega)) ?_))
  rw [hs.2.2.1 w (by omega)]
  repeat (first | (refine hP _ _ _ _ _ _ ?_; show P _ _ _ _ _ _) | (refine hP _ _ _ _ _ _ (And.intro (hN _ _ _ rfl) ?_); show P _ _ (aR _ _ :: _) _ _ _))
  refine hP _ _ _ _ _ _ (And.intro (fun _ => ?_) (fun hc => absurd (nI_le (a := v) (b := grN w) (by omega) (by omega)) hc))
  repeat (first | (refine hP _ _ _ _ _ _ ?_; show P _ _ _ _ _ _) | (refine hP _ _ _ _ _ _ (And.intro (hN _ _ _ rfl) ?_); show P _ _ (aR _ _ :: _) _ _ _))
  refine hP _ _ _ _ _ _ (c_told (by omega) hX (by omega) (fun S1 g1 => ?_))
  have hX1 := hX.sc g1
  have hN := hX1.1.1
  have hz1 : zB S1 0 F.n := hz.up g1 (fun j k z => by simp only [w0] at z; omega)
  have g1f : Ag wFl S S1 := g1.mono (fun j g k z => by simp only [w0] at z; simp only [wFl]; omega)
  obtain ⟨m, hm, em⟩ := tdI_ok (tv := tv) hw hX.2.2 h1 h2 ho
  rw [em] at h ⊢
  repeat (first | (refine hP _ _ _ _ _ _ ?_; show P _ _ _ _ _ _) | (refine hP _ _ _ _ _ _ (And.intro (hN _ _ _ rfl) ?_); show P _ _ (aR _ _ :: _) _ _ _))
  refine hP _ _ _ _ _ _ (And.intro (fun _ => ?_) (fun hc => absurd (nI_pos' (by omega)) hc))
  repeat (first | (refine hP _ _ _ _ _ _ ?_; show P _ _ _ _ _ _) | (refine hP _ _ _ _ _ _ (And.intro (hN _ _ _ rfl) ?_); show P _ _ (aR _ _ :: _) _ _ _))
  rcases (show w = 0 ∨ w = 1 ∨ w = 2 ∨ w = 3 ∨ w = 4 by omega) with rfl | rfl | rfl | rfl | rfl
  · refine hP _ _ _ _ _ _ (swP_to ?_)
    show P 76 _ _ _ _ _
    repeat (first | (refine hP _ _ _ _ _ _ ?_; show P _ _ _ _ _ _) | (refine hP _ _ _ _ _ _ (And.intro (hN _ _ _ rfl) ?_); show P _ _ (aR _ _ :: _) _ _ _))
    exact hP _ _ _ _ _ _ (h _ (g1f.tr (Ag.iv (by simp [wFl]))) (hX1.2.1.sR v) (hz1.up (W := fun j g k => j = 10) (Ag.iv rfl) (fun j k z => by omega)))
  · refine hP _ _ _ _ _ _ (swP_to ?_)
    show P 87 _ _ _ _ _
    repeat (first | (refine hP _ _ _ _ _ _ ?_; show P _ _ _ _ _ _) | (refine hP _ _ _ _ _ _ (And.intro (hN _ _ _ rfl) ?_); show P _ _ (aR _ _ :: _) _ _ _))
    exact hP _ _ _ _ _ _ (h _ (g1f.tr (Ag.iv (by simp [wFl]))) (hX1.2.1.sNi v) (hz1.up (W := fun j g k => j = 10) (Ag.iv rfl) (fun j k z => by omega)))
  · obtain ⟨ha, rfl⟩ := ha (by omega)
    refine hP _ _ _ _ _ _ (swP_to ?_)
    show P 98 _ _ _ _ _
    repeat (first | (refine hP _ _ _ _ _ _ ?_; show P _ _ _ _ _ _) | (refine hP _ _ _ _ _ _ (And.intro (hN _ _ _ rfl) ?_); show P _ _ (aR _ _ :: _) _ _ _))
    refine hP _ _ _ _ _ _ (Exists.intro (a) (And.intro (And.intro (rfl) (by show a < 5; omega)) ?_))
    repeat (first | (refine hP _ _ _ _ _ _ ?_; show P _ _ _ _ _ _) | (refine hP _ _ _ _ _ _ (And.intro (hN _ _ _ rfl) ?_); show P _ _ (aR _ _ :: _) _ _ _))
    exact hP _ _ _ _ _ _ (h _ (g1f.tr (Ag.iv (by simp [wFl]))) (hX1.2.1.sNu a v) (hz1.up (W := fun j g k => j = 12) (Ag.iv rfl) (fun j k z => by omega)))
  · obtain ⟨ha, rfl⟩ := ha (by omega)
    refine hP _ _ _ _ _ _ (swP_to ?_)
    show P 111 _ _ _ _ _
    repeat (first | (refine hP _ _ _ _ _ _ ?_; show P _ _ _ _ _ _) | (refine hP _ _ _ _ _ _ (And.intro (hN _ _ _ rfl) ?_); show P _ _ (aR _ _ :: _) _ _ _))
    refine hP _ _ _ _ _ _ (Exists.intro (a) (And.intro (And.intro (rfl) (by show a < 5; omega)) ?_))
    repeat (first | (refine hP _ _ _ _ _ _ ?_; show P _ _ _ _ _ _) | (refine hP _ _ _ _ _ _ (And.intro (hN _ _ _ rfl) ?_); show P _ _ (aR _ _ :: _) _ _ _))
    exact hP _ _ _ _ _ _ (h _ (g1f.tr (Ag.iv (by simp [wFl]))) (hX1.2.1.sD a v) (hz1.n (W := fun j g k => j = 13 ∧ k = a) (Ag.iv ⟨rfl, rfl⟩) (fun j k z => by omega)))
  · have hq := hq rfl
    obtain ⟨q1, q2, q3⟩ := dpx_lt hq
    have q1 : a < F.n := q1
    have q2 : b < F.n := q2
    refine hP _ _ _ _ _ _ (swP_to ?_)
    show P 124 _ _ _ _ _
    repeat (first | (refine hP _ _ _ _ _ _ ?_; show P _ _ _ _ _ _) | (refine hP _ _ _ _ _ _ (And.intro (hN _ _ _ rfl) ?_); show P _ _ (aR _ _ :: _) _ _ _))
    refine hP _ _ _ _ _ _ (c_debtPlace (by omega) hN hX1.2.1.1 hn5 ?_)
    rw [hq]
    repeat (first | (refine hP _ _ _ _ _ _ ?_; show P _ _ _ _ _ _) | (refine hP _ _ _ _ _ _ (And.intro (hN _ _ _ rfl) ?_); show P _ _ (aR _ _ :: _) _ _ _))
    refine hP _ _ _ _ _ _ (Exists.intro (5 * a + b) (And.intro (And.intro (rfl) (by show 5 * a + b < 25; omega)) ?_))
    repeat (first | (refine hP _ _ _ _ _ _ ?_; show P _ _ _ _ _ _) | (refine hP _ _ _ _ _ _ (And.intro (hN _ _ _ rfl) ?_); show P _ _ (aR _ _ :: _) _ _ _))
    exact hP _ _ _ _ _ _ (h _ (g1f.tr (Ag.iv (by simp [wFl]))) (hX1.2.1.sO hn5 a b v q2) (hz1.n (W := fun j g k => j = 14 ∧ k = 5 * a + b) (Ag.iv ⟨rfl, rfl⟩) (fun j k z => by omega)))
theorem op_set (w x v : Int32) : OpA m_X5_set m_X6_set [aI w, aI x, aI v] isI := by
  intro d S K hd hT hK
  obtain ⟨F, I, sh, T, nT, tb, hT⟩ := hT
  have hX := hT.fx
  have bad : seB F.n w x v → Call d m_X5_set [aR 0 0, aI w, aI x, aI v] S K := fun hb =>
    c_set_bad (by omega) hX hT.2.2.2.1.2.1 hb (fun S1 g1 => hK S1 _ ⟨_, rfl⟩ (by rw [g1.2]; omega) (fun d' K' hd' hK' => n_set_bad (by omega) (hT.m1 (g1.mono w0_th)) hb (hK' S1 ⟨F, I, sh, T, nT, tb, hT.th2 (g1.mono w0_th) (Ag.rf _ _)⟩)))
  cases h1 : isD 5 w with
  | false => exact bad (Or.inl h1)
  | true =>
    obtain ⟨k, hk, -, rfl⟩ := isD_of h1
    cases h2 : isD (grN k + 1) v with
    | false => exact bad (Or.inr ⟨k, by omega, rfl, Or.inl h2⟩)
    | true =>
      cases h3 : isOfB F.n k x with
      | false => exact bad (Or.inr ⟨k, by omega, rfl, Or.inr ⟨h2, h3⟩⟩)
      | true =>
        obtain ⟨u, hu, -, rfl⟩ := isD_of h2
        obtain ⟨a, b, ha, hq⟩ := isOf_ex (by omega) h3
        obtain ⟨p1, p2, p3, p4⟩ := hT.2.1
        have hn : (stF F k a b u).n = F.n := by
          rcases (show k = 0 ∨ k = 1 ∨ k = 2 ∨ k = 3 ∨ k = 4 by omega) with rfl | rfl | rfl | rfl | rfl <;> rfl
        have hp : PV (stF F k a b u) I nT := by
          rcases (show k = 0 ∨ k = 1 ∨ k = 2 ∨ k = 3 ∨ k = 4 by omega) with rfl | rfl | rfl | rfl | rfl
          · have hu : u < 999 + 1 := hu
            exact hT.2.1.ch (p1.sR u) (by show u ≤ 999; omega) p3 (Nat.le_refl _) (fun _ _ => rfl)
          · have hu : u < 999 + 1 := hu
            exact hT.2.1.ch (p1.sNi u) p2 (by show u ≤ 999; omega) (Nat.le_refl _) (fun _ _ => rfl)
          · have hu : u < 9 + 1 := hu
            exact hT.2.1.ch (p1.sNu a (by omega)) p2 p3 (Nat.le_refl _) (fun _ _ => rfl)
          · have hu : u < 99 + 1 := hu
            exact hT.2.1.ch (p1.sD a (by omega)) p2 p3 (Nat.le_refl _) (fun _ _ => rfl)
          · have hu : u < 99 + 1 := hu
            exact hT.2.1.ch (p1.sO a b (by omega)) p2 p3 (Nat.le_refl _) (fun _ _ => rfl)
        exact c_setx (by omega) hX hT.2.2.2.1.2.1 hT.2.2.2.1.2.2.2.1 p2 p3 (by omega) (by omega) h3 ha hq (fun S1 g1 hF1 hz1 => hK S1 _ ⟨_, rfl⟩ (by rw [g1.2]; omega) (fun d' K' hd' hK' => n_setx (by omega) (hT.m2 g1) (by omega) (by omega) h3 ha hq (fun S2 g2 hM2 => hK' S2 ⟨stF F k a b u, I, sh, T, nT, tb, hT.fl2 g1 hF1 (by rw [hn]; exact hz1) g2 hM2 hp⟩)))
