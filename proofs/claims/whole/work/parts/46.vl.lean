/-! The class: a text's value -/
def cdT (T : Tx) : List Nat := (ptc T 0).2.1 ++ (ptc T 1).2.1 ++ (ptc T 2).2.1
def stT (T : Tx) (p : Nat) : Nat := match p with
  | 0 => 0
  | 1 => (ptc T 0).2.1.length
  | _ => (ptc T 0).2.1.length + (ptc T 1).2.1.length
/-- text t lies there, read -/
def TXt (S : St) (t : Nat) (T : Tx) : Prop := fine T = true ∧ S.2.2.1 3 0 t = true ∧ S.2.2.2.1 t = (cdT T).length ∧ (cdT T).length ≤ 160 ∧ (∀ k, k < (cdT T).length → S.1 31 t k = nI ((cdT T).getD k 0)) ∧ ∀ p, p < 3 → S.1 32 t p = nI (stT T p + (ptc T p).2.1.length)
theorem seg_at (T : Tx) (p : Nat) (hp : p < 3) : ∀ i, i < (ptc T p).2.1.length → (cdT T).getD (stT T p + i) 0 = (ptc T p).2.1.getD i 0 ∧ stT T p + i < (cdT T).length := by
  intro i hi
  have hlen : (cdT T).length = (ptc T 0).2.1.length + (ptc T 1).2.1.length + (ptc T 2).2.1.length := by
    simp only [cdT, List.length_append]
  rcases (show p = 0 ∨ p = 1 ∨ p = 2 by omega) with rfl | rfl | rfl
  · refine ⟨?_, by show 0 + i < _; omega⟩
    simp only [stT, cdT, List.getD, Nat.zero_add]
    rw [List.getElem?_append_left (by rw [List.length_append]; omega), List.getElem?_append_left hi]
  · refine ⟨?_, by show _ + i < _; simp only [stT]; omega⟩
    simp only [stT, cdT, List.getD]
    rw [List.getElem?_append_left (by rw [List.length_append]; omega), List.getElem?_append_right (by omega)]
    congr 2
    omega
  · refine ⟨?_, by show _ + i < _; simp only [stT]; omega⟩
    simp only [stT, cdT, List.getD]
    rw [List.getElem?_append_right (by rw [List.length_append]; omega)]
    congr 2
    rw [List.length_append]
    omega
theorem fine_Q {T : Tx} (h : fine T = true) : ∀ p, p < 3 → Qc (ptc T p).2.1 := by
  intro p hp
  simp only [fine, Bool.and_eq_true] at h
  have h1 : (ptc T p).1 = true := by
    rcases (show p = 0 ∨ p = 1 ∨ p = 2 by omega) with rfl | rfl | rfl
    · exact h.1.1.1
    · exact h.1.1.2
    · exact h.1.2
  exact ((pt_in (p := p) (qT_le T p)).2 h1).2
def w5 : WW := fun j _ _ => j = 5
/-- the row of numbers holds s, the last one first -/
def SK (S : St) (s : List Int32) : Prop := ∀ i, i < s.length → S.1 5 0 (s.length - 1 - i) = s.getD i 0
theorem SK.push {S : St} {s : List Int32} {x : Int32} (h : SK S s) : SK (ivSet S 5 0 s.length x) (x :: s) := by
  intro i hi
  rw [List.length_cons] at hi ⊢
  cases i with
  | zero =>
    rw [show s.length + 1 - 1 - 0 = s.length by omega, iv_at]
    rfl
  | succ i =>
    rw [iv_ne (by omega), show s.length + 1 - 1 - (i + 1) = s.length - 1 - i by omega, h i (by omega)]
    rfl
theorem SK.tail {S : St} {s : List Int32} {x : Int32} (h : SK S (x :: s)) : SK S s := by
  intro i hi
  have := h (i + 1) (by rw [List.length_cons]; omega)
  rw [List.length_cons, show s.length + 1 - 1 - (i + 1) = s.length - 1 - i by omega] at this
  rw [this]
  rfl
theorem SK.head {S : St} {s : List Int32} {x : Int32} (h : SK S (x :: s)) : S.1 5 0 s.length = x := by
  have := h 0 (by rw [List.length_cons]; omega)
  rw [List.length_cons, show s.length + 1 - 1 - 0 = s.length by omega] at this
  exact this
theorem q_value {d t p nT : Nat} {S : St} {K : KT} {T : Tx} {N : Nat → Int32} (hd : 1 ≤ d) (hN : NN S) (hT : TXt S t T) (ht : t < nT) (hn6 : nT ≤ 6) (hc : S.1 1 0 1 = nI nT) (hp : p < 3) (hnm : ∀ k, k < 6 → S.1 4 0 k = N k) (h : ∀ S', Ag w5 S S' → S'.2.1 = S.2.1 → K (some (aI (tvT T p N))) S') : Call d m_X2_value [aR 1 0, aI (nI t), aI (nI p)] S K := by
  refine Call.of (k := 0) hd (fun e he P hP => ?_)
  obtain ⟨f1, f2, f3, f4, f5, f6⟩ := hT
  have hQ := fine_Q f1 p hp
  have hseg := seg_at T p hp
  have hend := f6 p hp
  obtain ⟨v, hv⟩ := hQ.2 N
  have htv : tvT T p N = v := tvT_eq hv
  rw [htv] at h
  have hb := hQ.1
  have hev := hv []
  generalize (ptc T p).2.1 = e' at hseg hend hb hev
  have hprev : ∀ p', p = p' + 1 → S.1 32 t p' = nI (stT T p) := by
    intro p' hp'
    rw [f6 p' (by omega)]
    rcases (show p' = 0 ∨ p' = 1 by omega) with rfl | rfl
    · rw [hp']
      simp only [stT, Nat.zero_add]
    · rw [hp']
      simp only [stT]
  have hzero : p = 0 → stT T p = 0 := fun z => by rw [z]; rfl
  generalize stT T p = a at hseg hend hprev hzero
  have hne : e'.length ≠ 0 := by
    intro z
    have : e' = [] := List.eq_nil_of_length_eq_zero z
    rw [this] at hev
    simp [ev] at hev
  have hae : a + e'.length ≤ 160 := by
    have := (hseg (e'.length - 1) (by omega)).2
    omega
  have loop : ∀ i, i ≤ e'.length → ∀ S1 s x6 x7, Ag w5 S S1 → S1.2.1 = S.2.1 → SK S1 s → s.length ≤ i → ev N (e'.drop i) s = some [v] → P 57 [some (aR 1 0), some (aI (nI t)), some (aI (nI p)), some (aR 30 t), some (aI (nI s.length - 1)), some (aI (nI (a + i))), x6, x7] [aI (nI p), aR 32 t, aI (nI (a + i))] S1 0 0 := by
    refine dn ?_ ?_
    · intro S1 s x6 x7 g1 gl hs hl he
      rw [List.drop_length] at he
      have hsv : s = [v] := by
        simp only [ev, Option.some.injEq] at he
        exact he
      subst hsv
      have hN := hN.up g1
      refine hP _ _ _ _ _ _ (Exists.intro (p) (And.intro (And.intro (rfl) (by show p < 3; omega)) ?_))
      rw [g1.1 32 t p (by simp [w5]), hend]
      refine hP _ _ _ _ _ _ (And.intro (fun _ => ?_) (fun hc => absurd (nI_le (Nat.le_refl _) (by omega)) hc))
      rw [show nI ([v] : List Int32).length - 1 = 0 from (nI_pred 0).trans nI_0]
      repeat (first | (refine hP _ _ _ _ _ _ ?_; show P _ _ _ _ _ _) | (refine hP _ _ _ _ _ _ (And.intro (hN _ _ _ rfl) ?_); show P _ _ (aR _ _ :: _) _ _ _) | refine hP _ _ _ _ _ _ (And.intro (fun _ => ?_) (fun hc => absurd hc (by decide))) | refine hP _ _ _ _ _ _ (And.intro (fun hc => absurd hc (by decide)) (fun _ => ?_)))
      refine hP _ _ _ _ _ _ (Exists.intro (0) (And.intro (And.intro (rfl) (by show 0 < 160; omega)) ?_))
      rw [show S1.1 5 0 0 = v from hs 0 (by simp)]
      repeat (first | (refine hP _ _ _ _ _ _ ?_; show P _ _ _ _ _ _) | (refine hP _ _ _ _ _ _ (And.intro (hN _ _ _ rfl) ?_); show P _ _ (aR _ _ :: _) _ _ _) | refine hP _ _ _ _ _ _ (And.intro (fun _ => ?_) (fun hc => absurd hc (by decide))) | refine hP _ _ _ _ _ _ (And.intro (fun hc => absurd hc (by decide)) (fun _ => ?_)))
      exact hP _ _ _ _ _ _ (h S1 g1 gl)
    · intro i hi ih S1 s x6 x7 g1 gl hs hl he
      have hN := hN.up g1
      obtain ⟨s1, s2⟩ := hseg i hi
      have hbc : e'.getD i 0 ≤ 10014 := by
        apply hb
        simp [List.getD, hi]
      have hdr : e'.drop i = e'.getD i 0 :: e'.drop (i + 1) := by
        rw [List.drop_eq_getElem_cons hi]
        simp [List.getD, hi]
      have hcd := f5 (a + i) s2
      rw [s1] at hcd
      rw [hdr] at he
      generalize e'.getD i 0 = c at hcd he hbc
      have done : ∀ w r x7, SK S1 r → r.length ≤ i → ev N (e'.drop (i + 1)) (w :: r) = some [v] → P 57 [some (aR 1 0), some (aI (nI t)), some (aI (nI p)), some (aR 30 t), some (aI (nI r.length)), some (aI (nI (a + i) + 1)), some (aI (nI c)), x7] [aI (nI p), aR 32 t, aI (nI (a + i) + 1)] (ivSet S1 5 0 r.length w) 0 0 := by
        intro w r x7 hr hrl hev2
        have := ih (ivSet S1 5 0 r.length w) (w :: r) (some (aI (nI c))) x7 (g1.tr (Ag.iv (by simp [w5]))) gl hr.push (by rw [List.length_cons]; omega) hev2
        rw [show nI (w :: r).length - 1 = nI r.length from nI_pred _, show nI (a + (i + 1)) = nI (a + i) + 1 from nI_succ _] at this
        exact this
      refine hP _ _ _ _ _ _ (Exists.intro (p) (And.intro (And.intro (rfl) (by show p < 3; omega)) ?_))
      rw [g1.1 32 t p (by simp [w5]), hend]
      refine hP _ _ _ _ _ _ (And.intro (fun hc => absurd hc (nI_ge (by omega) (by omega))) (fun _ => ?_))
      repeat (first | (refine hP _ _ _ _ _ _ ?_; show P _ _ _ _ _ _) | (refine hP _ _ _ _ _ _ (And.intro (hN _ _ _ rfl) ?_); show P _ _ (aR _ _ :: _) _ _ _))
      refine hP _ _ _ _ _ _ (Exists.intro (a + i) (And.intro (And.intro (rfl) (by show a + i < S1.2.2.2.1 t; rw [g1.2]; omega)) ?_))
      rw [g1.1 31 t _ (by simp [w5]), hcd]
      repeat (first | (refine hP _ _ _ _ _ _ ?_; show P _ _ _ _ _ _) | (refine hP _ _ _ _ _ _ (And.intro (hN _ _ _ rfl) ?_); show P _ _ (aR _ _ :: _) _ _ _))
      refine hP _ _ _ _ _ _ (geI (x := c) (y := 10006) (by omega) (by omega) (fun hc6 => ?_) (fun hc6 => ?_))
      · repeat (first | (refine hP _ _ _ _ _ _ ?_; show P _ _ _ _ _ _) | (refine hP _ _ _ _ _ _ (And.intro (hN _ _ _ rfl) ?_); show P _ _ (aR _ _ :: _) _ _ _))
        refine hP _ _ _ _ _ _ (ltI (x := c) (y := 10008) (by omega) (by omega) (fun hc8 => ?_) (fun hc8 => ?_))
        · rcases s with _ | ⟨x, r⟩
          · simp [ev, ev1, show ¬ c < 10000 by omega, show ¬ c < 10006 by omega, hc8] at he
          · have hev2 : ev N (e'.drop (i + 1)) (uop c x :: r) = some [v] := by
              simpa [ev, ev1, show ¬ c < 10000 by omega, show ¬ c < 10006 by omega, hc8] using he
            have hrl : r.length + 1 ≤ i := hl
            have hx := hs.head
            have hr := hs.tail
            rw [show nI (x :: r).length - 1 = nI r.length from nI_pred _]
            repeat (first | (refine hP _ _ _ _ _ _ ?_; show P _ _ _ _ _ _) | (refine hP _ _ _ _ _ _ (And.intro (hN _ _ _ rfl) ?_); show P _ _ (aR _ _ :: _) _ _ _))
            refine hP _ _ _ _ _ _ (And.intro (fun _ => ?_) (fun hc => absurd (nI_pos' (by omega)) hc))
            repeat (first | (refine hP _ _ _ _ _ _ ?_; show P _ _ _ _ _ _) | (refine hP _ _ _ _ _ _ (And.intro (hN _ _ _ rfl) ?_); show P _ _ (aR _ _ :: _) _ _ _))
            refine hP _ _ _ _ _ _ (Exists.intro (r.length) (And.intro (And.intro (rfl) (by show _ < 160; omega)) ?_))
            rw [hx]
            rcases (show c = 10006 ∨ c = 10007 by omega) with rfl | rfl
            · repeat (first | (refine hP _ _ _ _ _ _ ?_; show P _ _ _ _ _ _) | (refine hP _ _ _ _ _ _ (And.intro (hN _ _ _ rfl) ?_); show P _ _ (aR _ _ :: _) _ _ _))
              refine hP _ _ _ _ _ _ (swP_to ?_)
              show P 204 _ _ _ _ _
              repeat (first | (refine hP _ _ _ _ _ _ ?_; show P _ _ _ _ _ _) | (refine hP _ _ _ _ _ _ (And.intro (hN _ _ _ rfl) ?_); show P _ _ (aR _ _ :: _) _ _ _))
              refine hP _ _ _ _ _ _ (Exists.intro (r.length) (And.intro (And.intro (rfl) (by show _ < 160; omega)) ?_))
              show P _ _ _ (ivSet S1 5 0 r.length (-x)) _ _
              repeat (first | (refine hP _ _ _ _ _ _ ?_; show P _ _ _ _ _ _) | (refine hP _ _ _ _ _ _ (And.intro (hN _ _ _ rfl) ?_); show P _ _ (aR _ _ :: _) _ _ _))
              exact done (-x) r _ hr (by omega) hev2
            · repeat (first | (refine hP _ _ _ _ _ _ ?_; show P _ _ _ _ _ _) | (refine hP _ _ _ _ _ _ (And.intro (hN _ _ _ rfl) ?_); show P _ _ (aR _ _ :: _) _ _ _))
              refine hP _ _ _ _ _ _ (swP_to ?_)
              show P 217 _ _ _ _ _
              repeat (first | (refine hP _ _ _ _ _ _ ?_; show P _ _ _ _ _ _) | (refine hP _ _ _ _ _ _ (And.intro (hN _ _ _ rfl) ?_); show P _ _ (aR _ _ :: _) _ _ _))
              refine hP _ _ _ _ _ _ (And.intro (fun h1 => ?_) (fun h1 => ?_))
              · repeat (first | (refine hP _ _ _ _ _ _ ?_; show P _ _ _ _ _ _) | (refine hP _ _ _ _ _ _ (And.intro (hN _ _ _ rfl) ?_); show P _ _ (aR _ _ :: _) _ _ _))
                refine hP _ _ _ _ _ _ (Exists.intro (r.length) (And.intro (And.intro (rfl) (by show _ < 160; omega)) ?_))
                show P _ _ _ (ivSet S1 5 0 r.length 0) _ _
                repeat (first | (refine hP _ _ _ _ _ _ ?_; show P _ _ _ _ _ _) | (refine hP _ _ _ _ _ _ (And.intro (hN _ _ _ rfl) ?_); show P _ _ (aR _ _ :: _) _ _ _))
                exact done 0 r _ hr (by omega) (by rw [show uop 10007 x = 0 from by simp [uop, h1]] at hev2; exact hev2)
              · repeat (first | (refine hP _ _ _ _ _ _ ?_; show P _ _ _ _ _ _) | (refine hP _ _ _ _ _ _ (And.intro (hN _ _ _ rfl) ?_); show P _ _ (aR _ _ :: _) _ _ _))
                refine hP _ _ _ _ _ _ (Exists.intro (r.length) (And.intro (And.intro (rfl) (by show _ < 160; omega)) ?_))
                show P _ _ _ (ivSet S1 5 0 r.length 1) _ _
                repeat (first | (refine hP _ _ _ _ _ _ ?_; show P _ _ _ _ _ _) | (refine hP _ _ _ _ _ _ (And.intro (hN _ _ _ rfl) ?_); show P _ _ (aR _ _ :: _) _ _ _))
                exact done 1 r _ hr (by omega) (by rw [show uop 10007 x = 1 from by simp [uop, h1]] at hev2; exact hev2)
        · rcases s with _ | ⟨y, _ | ⟨x, r⟩⟩
          · simp [ev, ev1, show ¬ c < 10000 by omega, show ¬ c < 10006 by omega, hc8] at he
          · simp [ev, ev1, show ¬ c < 10000 by omega, show ¬ c < 10006 by omega, hc8] at he
          · have hev2 : ev N (e'.drop (i + 1)) (bop c x y :: r) = some [v] := by
              simpa [ev, ev1, show ¬ c < 10000 by omega, show ¬ c < 10006 by omega, hc8] using he
            have hrl : r.length + 2 ≤ i := hl
            have hy : S1.1 5 0 (r.length + 1) = y := hs.head
            have hx := hs.tail.head
            have hr := hs.tail.tail
            rw [show nI (y :: x :: r).length - 1 = nI (r.length + 1) from nI_pred _]
            repeat (first | (refine hP _ _ _ _ _ _ ?_; show P _ _ _ _ _ _) | (refine hP _ _ _ _ _ _ (And.intro (hN _ _ _ rfl) ?_); show P _ _ (aR _ _ :: _) _ _ _))
            rw [pk_m1]
            refine hP _ _ _ _ _ _ (And.intro (fun _ => ?_) (fun hc => absurd (nI_pos' (by omega)) hc))
            repeat (first | (refine hP _ _ _ _ _ _ ?_; show P _ _ _ _ _ _) | (refine hP _ _ _ _ _ _ (And.intro (hN _ _ _ rfl) ?_); show P _ _ (aR _ _ :: _) _ _ _))
            refine hP _ _ _ _ _ _ (Exists.intro (r.length) (And.intro (And.intro (rfl) (by show _ < 160; omega)) ?_))
            rw [hx]
            rcases (show c = 10008 ∨ c = 10009 ∨ c = 10010 ∨ c = 10011 ∨ c = 10012 ∨ c = 10013 ∨ c = 10014 by omega) with rfl | rfl | rfl | rfl | rfl | rfl | rfl
            · repeat (first | (refine hP _ _ _ _ _ _ ?_; show P _ _ _ _ _ _) | (refine hP _ _ _ _ _ _ (And.intro (hN _ _ _ rfl) ?_); show P _ _ (aR _ _ :: _) _ _ _))
              refine hP _ _ _ _ _ _ (swP_to ?_)
              show P 237 _ _ _ _ _
              repeat (first | (refine hP _ _ _ _ _ _ ?_; show P _ _ _ _ _ _) | (refine hP _ _ _ _ _ _ (And.intro (hN _ _ _ rfl) ?_); show P _ _ (aR _ _ :: _) _ _ _))
              refine hP _ _ _ _ _ _ (And.intro (fun h1 => ?_) (fun h1 => ?_))
              · repeat (first | (refine hP _ _ _ _ _ _ ?_; show P _ _ _ _ _ _) | (refine hP _ _ _ _ _ _ (And.intro (hN _ _ _ rfl) ?_); show P _ _ (aR _ _ :: _) _ _ _))
                refine hP _ _ _ _ _ _ (Exists.intro (r.length) (And.intro (And.intro (rfl) (by show _ < 160; omega)) ?_))
                show P _ _ _ (ivSet S1 5 0 r.length (1)) _ _
                repeat (first | (refine hP _ _ _ _ _ _ ?_; show P _ _ _ _ _ _) | (refine hP _ _ _ _ _ _ (And.intro (hN _ _ _ rfl) ?_); show P _ _ (aR _ _ :: _) _ _ _))
                exact done (1) r _ hr (by omega) (by rw [show bop 10008 x y = 1 from by simp [bop, h1]] at hev2; exact hev2)
              · repeat (first | (refine hP _ _ _ _ _ _ ?_; show P _ _ _ _ _ _) | (refine hP _ _ _ _ _ _ (And.intro (hN _ _ _ rfl) ?_); show P _ _ (aR _ _ :: _) _ _ _))
                refine hP _ _ _ _ _ _ (Exists.intro (r.length + 1) (And.intro (And.intro (nI_1 _) (by show _ < 160; omega)) ?_))
                rw [hy]
                refine hP _ _ _ _ _ _ (And.intro (fun h2 => ?_) (fun h2 => ?_))
                · repeat (first | (refine hP _ _ _ _ _ _ ?_; show P _ _ _ _ _ _) | (refine hP _ _ _ _ _ _ (And.intro (hN _ _ _ rfl) ?_); show P _ _ (aR _ _ :: _) _ _ _))
                  refine hP _ _ _ _ _ _ (Exists.intro (r.length) (And.intro (And.intro (rfl) (by show _ < 160; omega)) ?_))
                  show P _ _ _ (ivSet S1 5 0 r.length (0)) _ _
                  repeat (first | (refine hP _ _ _ _ _ _ ?_; show P _ _ _ _ _ _) | (refine hP _ _ _ _ _ _ (And.intro (hN _ _ _ rfl) ?_); show P _ _ (aR _ _ :: _) _ _ _))
                  exact done (0) r _ hr (by omega) (by rw [show bop 10008 x y = 0 from by simp [bop, h1, h2]] at hev2; exact hev2)
                · repeat (first | (refine hP _ _ _ _ _ _ ?_; show P _ _ _ _ _ _) | (refine hP _ _ _ _ _ _ (And.intro (hN _ _ _ rfl) ?_); show P _ _ (aR _ _ :: _) _ _ _))
                  refine hP _ _ _ _ _ _ (Exists.intro (r.length) (And.intro (And.intro (rfl) (by show _ < 160; omega)) ?_))
                  show P _ _ _ (ivSet S1 5 0 r.length (1)) _ _
                  repeat (first | (refine hP _ _ _ _ _ _ ?_; show P _ _ _ _ _ _) | (refine hP _ _ _ _ _ _ (And.intro (hN _ _ _ rfl) ?_); show P _ _ (aR _ _ :: _) _ _ _))
                  exact done (1) r _ hr (by omega) (by rw [show bop 10008 x y = 1 from by simp [bop, h1, h2]] at hev2; exact hev2)
            · repeat (first | (refine hP _ _ _ _ _ _ ?_; show P _ _ _ _ _ _) | (refine hP _ _ _ _ _ _ (And.intro (hN _ _ _ rfl) ?_); show P _ _ (aR _ _ :: _) _ _ _))
              refine hP _ _ _ _ _ _ (swP_to ?_)
              show P 269 _ _ _ _ _
              repeat (first | (refine hP _ _ _ _ _ _ ?_; show P _ _ _ _ _ _) | (refine hP _ _ _ _ _ _ (And.intro (hN _ _ _ rfl) ?_); show P _ _ (aR _ _ :: _) _ _ _))
              refine hP _ _ _ _ _ _ (And.intro (fun h1 => ?_) (fun h1 => ?_))
              · repeat (first | (refine hP _ _ _ _ _ _ ?_; show P _ _ _ _ _ _) | (refine hP _ _ _ _ _ _ (And.intro (hN _ _ _ rfl) ?_); show P _ _ (aR _ _ :: _) _ _ _))
                refine hP _ _ _ _ _ _ (Exists.intro (r.length) (And.intro (And.intro (rfl) (by show _ < 160; omega)) ?_))
                show P _ _ _ (ivSet S1 5 0 r.length (0)) _ _
                repeat (first | (refine hP _ _ _ _ _ _ ?_; show P _ _ _ _ _ _) | (refine hP _ _ _ _ _ _ (And.intro (hN _ _ _ rfl) ?_); show P _ _ (aR _ _ :: _) _ _ _))
                exact done (0) r _ hr (by omega) (by rw [show bop 10009 x y = 0 from by simp [bop, h1]] at hev2; exact hev2)
              · repeat (first | (refine hP _ _ _ _ _ _ ?_; show P _ _ _ _ _ _) | (refine hP _ _ _ _ _ _ (And.intro (hN _ _ _ rfl) ?_); show P _ _ (aR _ _ :: _) _ _ _))
                refine hP _ _ _ _ _ _ (Exists.intro (r.length + 1) (And.intro (And.intro (nI_1 _) (by show _ < 160; omega)) ?_))
                rw [hy]
                refine hP _ _ _ _ _ _ (And.intro (fun h2 => ?_) (fun h2 => ?_))
                · repeat (first | (refine hP _ _ _ _ _ _ ?_; show P _ _ _ _ _ _) | (refine hP _ _ _ _ _ _ (And.intro (hN _ _ _ rfl) ?_); show P _ _ (aR _ _ :: _) _ _ _))
                  refine hP _ _ _ _ _ _ (Exists.intro (r.length) (And.intro (And.intro (rfl) (by show _ < 160; omega)) ?_))
                  show P _ _ _ (ivSet S1 5 0 r.length (0)) _ _
                  repeat (first | (refine hP _ _ _ _ _ _ ?_; show P _ _ _ _ _ _) | (refine hP _ _ _ _ _ _ (And.intro (hN _ _ _ rfl) ?_); show P _ _ (aR _ _ :: _) _ _ _))
                  exact done (0) r _ hr (by omega) (by rw [show bop 10009 x y = 0 from by simp [bop, h1, h2]] at hev2; exact hev2)
                · repeat (first | (refine hP _ _ _ _ _ _ ?_; show P _ _ _ _ _ _) | (refine hP _ _ _ _ _ _ (And.intro (hN _ _ _ rfl) ?_); show P _ _ (aR _ _ :: _) _ _ _))
                  refine hP _ _ _ _ _ _ (Exists.intro (r.length) (And.intro (And.intro (rfl) (by show _ < 160; omega)) ?_))
                  show P _ _ _ (ivSet S1 5 0 r.length (1)) _ _
                  repeat (first | (refine hP _ _ _ _ _ _ ?_; show P _ _ _ _ _ _) | (refine hP _ _ _ _ _ _ (And.intro (hN _ _ _ rfl) ?_); show P _ _ (aR _ _ :: _) _ _ _))
                  exact done (1) r _ hr (by omega) (by rw [show bop 10009 x y = 1 from by simp [bop, h1, h2]] at hev2; exact hev2)
            · repeat (first | (refine hP _ _ _ _ _ _ ?_; show P _ _ _ _ _ _) | (refine hP _ _ _ _ _ _ (And.intro (hN _ _ _ rfl) ?_); show P _ _ (aR _ _ :: _) _ _ _))
              refine hP _ _ _ _ _ _ (swP_to ?_)
              show P 301 _ _ _ _ _
              repeat (first | (refine hP _ _ _ _ _ _ ?_; show P _ _ _ _ _ _) | (refine hP _ _ _ _ _ _ (And.intro (hN _ _ _ rfl) ?_); show P _ _ (aR _ _ :: _) _ _ _))
              refine hP _ _ _ _ _ _ (Exists.intro (r.length + 1) (And.intro (And.intro (nI_1 _) (by show _ < 160; omega)) ?_))
              rw [hy]
              refine hP _ _ _ _ _ _ (And.intro (fun h1 => ?_) (fun h1 => ?_))
              · repeat (first | (refine hP _ _ _ _ _ _ ?_; show P _ _ _ _ _ _) | (refine hP _ _ _ _ _ _ (And.intro (hN _ _ _ rfl) ?_); show P _ _ (aR _ _ :: _) _ _ _))
                refine hP _ _ _ _ _ _ (Exists.intro (r.length) (And.intro (And.intro (rfl) (by show _ < 160; omega)) ?_))
                show P _ _ _ (ivSet S1 5 0 r.length (0)) _ _
                repeat (first | (refine hP _ _ _ _ _ _ ?_; show P _ _ _ _ _ _) | (refine hP _ _ _ _ _ _ (And.intro (hN _ _ _ rfl) ?_); show P _ _ (aR _ _ :: _) _ _ _))
                exact done (0) r _ hr (by omega) (by rw [show bop 10010 x y = 0 from by simp [bop, Int32.not_lt.mpr h1]] at hev2; exact hev2)
              · repeat (first | (refine hP _ _ _ _ _ _ ?_; show P _ _ _ _ _ _) | (refine hP _ _ _ _ _ _ (And.intro (hN _ _ _ rfl) ?_); show P _ _ (aR _ _ :: _) _ _ _))
                refine hP _ _ _ _ _ _ (Exists.intro (r.length) (And.intro (And.intro (rfl) (by show _ < 160; omega)) ?_))
                show P _ _ _ (ivSet S1 5 0 r.length (1)) _ _
                repeat (first | (refine hP _ _ _ _ _ _ ?_; show P _ _ _ _ _ _) | (refine hP _ _ _ _ _ _ (And.intro (hN _ _ _ rfl) ?_); show P _ _ (aR _ _ :: _) _ _ _))
                exact done (1) r _ hr (by omega) (by rw [show bop 10010 x y = 1 from by simp [bop, Int32.not_le.mp h1]] at hev2; exact hev2)
            · repeat (first | (refine hP _ _ _ _ _ _ ?_; show P _ _ _ _ _ _) | (refine hP _ _ _ _ _ _ (And.intro (hN _ _ _ rfl) ?_); show P _ _ (aR _ _ :: _) _ _ _))
              refine hP _ _ _ _ _ _ (swP_to ?_)
              show P 330 _ _ _ _ _
              repeat (first | (refine hP _ _ _ _ _ _ ?_; show P _ _ _ _ _ _) | (refine hP _ _ _ _ _ _ (And.intro (hN _ _ _ rfl) ?_); show P _ _ (aR _ _ :: _) _ _ _))
              refine hP _ _ _ _ _ _ (Exists.intro (r.length + 1) (And.intro (And.intro (nI_1 _) (by show _ < 160; omega)) ?_))
              rw [hy]
              refine hP _ _ _ _ _ _ (And.intro (fun h1 => ?_) (fun h1 => ?_))
              · repeat (first | (refine hP _ _ _ _ _ _ ?_; show P _ _ _ _ _ _) | (refine hP _ _ _ _ _ _ (And.intro (hN _ _ _ rfl) ?_); show P _ _ (aR _ _ :: _) _ _ _))
                refine hP _ _ _ _ _ _ (Exists.intro (r.length) (And.intro (And.intro (rfl) (by show _ < 160; omega)) ?_))
                show P _ _ _ (ivSet S1 5 0 r.length (0)) _ _
                repeat (first | (refine hP _ _ _ _ _ _ ?_; show P _ _ _ _ _ _) | (refine hP _ _ _ _ _ _ (And.intro (hN _ _ _ rfl) ?_); show P _ _ (aR _ _ :: _) _ _ _))
                exact done (0) r _ hr (by omega) (by rw [show bop 10011 x y = 0 from by simp [bop, h1]] at hev2; exact hev2)
              · repeat (first | (refine hP _ _ _ _ _ _ ?_; show P _ _ _ _ _ _) | (refine hP _ _ _ _ _ _ (And.intro (hN _ _ _ rfl) ?_); show P _ _ (aR _ _ :: _) _ _ _))
                refine hP _ _ _ _ _ _ (Exists.intro (r.length) (And.intro (And.intro (rfl) (by show _ < 160; omega)) ?_))
                show P _ _ _ (ivSet S1 5 0 r.length (1)) _ _
                repeat (first | (refine hP _ _ _ _ _ _ ?_; show P _ _ _ _ _ _) | (refine hP _ _ _ _ _ _ (And.intro (hN _ _ _ rfl) ?_); show P _ _ (aR _ _ :: _) _ _ _))
                exact done (1) r _ hr (by omega) (by rw [show bop 10011 x y = 1 from by simp [bop, h1]] at hev2; exact hev2)
            · repeat (first | (refine hP _ _ _ _ _ _ ?_; show P _ _ _ _ _ _) | (refine hP _ _ _ _ _ _ (And.intro (hN _ _ _ rfl) ?_); show P _ _ (aR _ _ :: _) _ _ _))
              refine hP _ _ _ _ _ _ (swP_to ?_)
              show P 359 _ _ _ _ _
              repeat (first | (refine hP _ _ _ _ _ _ ?_; show P _ _ _ _ _ _) | (refine hP _ _ _ _ _ _ (And.intro (hN _ _ _ rfl) ?_); show P _ _ (aR _ _ :: _) _ _ _))
              refine hP _ _ _ _ _ _ (Exists.intro (r.length + 1) (And.intro (And.intro (nI_1 _) (by show _ < 160; omega)) ?_))
              rw [hy]
              repeat (first | (refine hP _ _ _ _ _ _ ?_; show P _ _ _ _ _ _) | (refine hP _ _ _ _ _ _ (And.intro (hN _ _ _ rfl) ?_); show P _ _ (aR _ _ :: _) _ _ _))
              refine hP _ _ _ _ _ _ (Exists.intro (r.length) (And.intro (And.intro (rfl) (by show _ < 160; omega)) ?_))
              show P _ _ _ (ivSet S1 5 0 r.length (x + y)) _ _
              repeat (first | (refine hP _ _ _ _ _ _ ?_; show P _ _ _ _ _ _) | (refine hP _ _ _ _ _ _ (And.intro (hN _ _ _ rfl) ?_); show P _ _ (aR _ _ :: _) _ _ _))
              exact done (x + y) r _ hr (by omega) (by rw [show bop 10012 x y = x + y from by simp [bop]] at hev2; exact hev2)
            · repeat (first | (refine hP _ _ _ _ _ _ ?_; show P _ _ _ _ _ _) | (refine hP _ _ _ _ _ _ (And.intro (hN _ _ _ rfl) ?_); show P _ _ (aR _ _ :: _) _ _ _))
              refine hP _ _ _ _ _ _ (swP_to ?_)
              show P 381 _ _ _ _ _
              repeat (first | (refine hP _ _ _ _ _ _ ?_; show P _ _ _ _ _ _) | (refine hP _ _ _ _ _ _ (And.intro (hN _ _ _ rfl) ?_); show P _ _ (aR _ _ :: _) _ _ _))
              refine hP _ _ _ _ _ _ (Exists.intro (r.length + 1) (And.intro (And.intro (nI_1 _) (by show _ < 160; omega)) ?_))
              rw [hy]
              repeat (first | (refine hP _ _ _ _ _ _ ?_; show P _ _ _ _ _ _) | (refine hP _ _ _ _ _ _ (And.intro (hN _ _ _ rfl) ?_); show P _ _ (aR _ _ :: _) _ _ _))
              refine hP _ _ _ _ _ _ (Exists.intro (r.length) (And.intro (And.intro (rfl) (by show _ < 160; omega)) ?_))
              show P _ _ _ (ivSet S1 5 0 r.length (x - y)) _ _
              repeat (first | (refine hP _ _ _ _ _ _ ?_; show P _ _ _ _ _ _) | (refine hP _ _ _ _ _ _ (And.intro (hN _ _ _ rfl) ?_); show P _ _ (aR _ _ :: _) _ _ _))
              exact done (x - y) r _ hr (by omega) (by rw [show bop 10013 x y = x - y from by simp [bop]] at hev2; exact hev2)
            · repeat (first | (refine hP _ _ _ _ _ _ ?_; show P _ _ _ _ _ _) | (refine hP _ _ _ _ _ _ (And.intro (hN _ _ _ rfl) ?_); show P _ _ (aR _ _ :: _) _ _ _))
              refine hP _ _ _ _ _ _ (swP_to ?_)
              show P 403 _ _ _ _ _
              repeat (first | (refine hP _ _ _ _ _ _ ?_; show P _ _ _ _ _ _) | (refine hP _ _ _ _ _ _ (And.intro (hN _ _ _ rfl) ?_); show P _ _ (aR _ _ :: _) _ _ _))
              refine hP _ _ _ _ _ _ (Exists.intro (r.length + 1) (And.intro (And.intro (nI_1 _) (by show _ < 160; omega)) ?_))
              rw [hy]
              repeat (first | (refine hP _ _ _ _ _ _ ?_; show P _ _ _ _ _ _) | (refine hP _ _ _ _ _ _ (And.intro (hN _ _ _ rfl) ?_); show P _ _ (aR _ _ :: _) _ _ _))
              refine hP _ _ _ _ _ _ (Exists.intro (r.length) (And.intro (And.intro (rfl) (by show _ < 160; omega)) ?_))
              show P _ _ _ (ivSet S1 5 0 r.length (x * y)) _ _
              repeat (first | (refine hP _ _ _ _ _ _ ?_; show P _ _ _ _ _ _) | (refine hP _ _ _ _ _ _ (And.intro (hN _ _ _ rfl) ?_); show P _ _ (aR _ _ :: _) _ _ _))
              exact done (x * y) r _ hr (by omega) (by rw [show bop 10014 x y = x * y from by simp [bop]] at hev2; exact hev2)
      · have push : ∀ w, ev1 N s c = some (w :: s) → P 57 [some (aR 1 0), some (aI (nI t)), some (aI (nI p)), some (aR 30 t), some (aI (nI s.length)), some (aI (nI (a + i) + 1)), some (aI (nI c)), x7] [aI (nI p), aR 32 t, aI (nI (a + i) + 1)] (ivSet S1 5 0 s.length w) 0 0 := by
          intro w hw
          refine done w s x7 hs hl ?_
          simpa [ev, hw] using he
        repeat (first | (refine hP _ _ _ _ _ _ ?_; show P _ _ _ _ _ _) | (refine hP _ _ _ _ _ _ (And.intro (hN _ _ _ rfl) ?_); show P _ _ (aR _ _ :: _) _ _ _))
        rw [Int32.sub_add_cancel]
        refine hP _ _ _ _ _ _ (And.intro (fun _ => ?_) (fun hc => absurd (nI_lt (b := 160) (a := s.length) (by omega) (by decide)) hc))
        repeat (first | (refine hP _ _ _ _ _ _ ?_; show P _ _ _ _ _ _) | (refine hP _ _ _ _ _ _ (And.intro (hN _ _ _ rfl) ?_); show P _ _ (aR _ _ :: _) _ _ _))
        refine hP _ _ _ _ _ _ (geI (x := c) (y := 10000) (by omega) (by omega) (fun hc0 => ?_) (fun hc0 => ?_))
        · repeat (first | (refine hP _ _ _ _ _ _ ?_; show P _ _ _ _ _ _) | (refine hP _ _ _ _ _ _ (And.intro (hN _ _ _ rfl) ?_); show P _ _ (aR _ _ :: _) _ _ _))
          refine hP _ _ _ _ _ _ (Exists.intro (c - 10000) (And.intro (And.intro (pk_sub (by omega)) (by show _ < 6; omega)) ?_))
          rw [show S1.1 4 0 (c - 10000) = N (c - 10000) by rw [g1.1 4 0 _ (by simp [w5])]; exact hnm _ (by omega)]
          repeat (first | (refine hP _ _ _ _ _ _ ?_; show P _ _ _ _ _ _) | (refine hP _ _ _ _ _ _ (And.intro (hN _ _ _ rfl) ?_); show P _ _ (aR _ _ :: _) _ _ _))
          refine hP _ _ _ _ _ _ (Exists.intro (s.length) (And.intro (And.intro (rfl) (by show _ < 160; omega)) ?_))
          show P _ _ _ (ivSet S1 5 0 s.length (N (c - 10000))) _ _
          repeat (first | (refine hP _ _ _ _ _ _ ?_; show P _ _ _ _ _ _) | (refine hP _ _ _ _ _ _ (And.intro (hN _ _ _ rfl) ?_); show P _ _ (aR _ _ :: _) _ _ _))
          exact push (N (c - 10000)) (by simp [ev1, show ¬ c < 10000 by omega, show c < 10006 by omega])
        · repeat (first | (refine hP _ _ _ _ _ _ ?_; show P _ _ _ _ _ _) | (refine hP _ _ _ _ _ _ (And.intro (hN _ _ _ rfl) ?_); show P _ _ (aR _ _ :: _) _ _ _))
          refine hP _ _ _ _ _ _ (Exists.intro (s.length) (And.intro (And.intro (rfl) (by show _ < 160; omega)) ?_))
          show P _ _ _ (ivSet S1 5 0 s.length (nI c)) _ _
          repeat (first | (refine hP _ _ _ _ _ _ ?_; show P _ _ _ _ _ _) | (refine hP _ _ _ _ _ _ (And.intro (hN _ _ _ rfl) ?_); show P _ _ (aR _ _ :: _) _ _ _))
          exact push (nI c) (by simp [ev1, show c < 10000 by omega])
  repeat (first | (refine hP _ _ _ _ _ _ ?_; show P _ _ _ _ _ _) | (refine hP _ _ _ _ _ _ (And.intro (hN _ _ _ rfl) ?_); show P _ _ (aR _ _ :: _) _ _ _))
  refine hP _ _ _ _ _ _ (And.intro (fun hc => absurd hc (nI_pos (by omega))) (fun _ => ?_))
  repeat (first | (refine hP _ _ _ _ _ _ ?_; show P _ _ _ _ _ _) | (refine hP _ _ _ _ _ _ (And.intro (hN _ _ _ rfl) ?_); show P _ _ (aR _ _ :: _) _ _ _))
  rw [hc]
  refine hP _ _ _ _ _ _ (And.intro (fun hc => absurd hc (nI_ge ht (by omega))) (fun _ => ?_))
  repeat (first | (refine hP _ _ _ _ _ _ ?_; show P _ _ _ _ _ _) | (refine hP _ _ _ _ _ _ (And.intro (hN _ _ _ rfl) ?_); show P _ _ (aR _ _ :: _) _ _ _))
  refine hP _ _ _ _ _ _ (Exists.intro t (And.intro (And.intro rfl (by show t < 6; omega)) (And.intro f2 ?_)))
  show P _ _ (aR 30 t :: _) _ _ _
  have first := loop 0 (Nat.zero_le _) S [] none none (Ag.rf _ _) rfl (fun i hi => by simp at hi) (Nat.le_refl _) hev
  rcases (show p = 0 ∨ p = 1 ∨ p = 2 by omega) with rfl | rfl | rfl
  · have ha := hzero rfl
    subst ha
    repeat (first | (refine hP _ _ _ _ _ _ ?_; show P _ _ _ _ _ _) | (refine hP _ _ _ _ _ _ (And.intro (hN _ _ _ rfl) ?_); show P _ _ (aR _ _ :: _) _ _ _) | refine hP _ _ _ _ _ _ (And.intro (fun _ => ?_) (fun hc => absurd hc (by decide))) | refine hP _ _ _ _ _ _ (And.intro (fun hc => absurd hc (by decide)) (fun _ => ?_)))
    exact first
  · repeat (first | (refine hP _ _ _ _ _ _ ?_; show P _ _ _ _ _ _) | (refine hP _ _ _ _ _ _ (And.intro (hN _ _ _ rfl) ?_); show P _ _ (aR _ _ :: _) _ _ _) | refine hP _ _ _ _ _ _ (And.intro (fun _ => ?_) (fun hc => absurd hc (by decide))) | refine hP _ _ _ _ _ _ (And.intro (fun hc => absurd hc (by decide)) (fun _ => ?_)))
    refine hP _ _ _ _ _ _ (Exists.intro (0) (And.intro (And.intro (rfl) (by show 0 < 3; omega)) ?_))
    rw [hprev 0 rfl]
    repeat (first | (refine hP _ _ _ _ _ _ ?_; show P _ _ _ _ _ _) | (refine hP _ _ _ _ _ _ (And.intro (hN _ _ _ rfl) ?_); show P _ _ (aR _ _ :: _) _ _ _) | refine hP _ _ _ _ _ _ (And.intro (fun _ => ?_) (fun hc => absurd hc (by decide))) | refine hP _ _ _ _ _ _ (And.intro (fun hc => absurd hc (by decide)) (fun _ => ?_)))
    exact first
  · repeat (first | (refine hP _ _ _ _ _ _ ?_; show P _ _ _ _ _ _) | (refine hP _ _ _ _ _ _ (And.intro (hN _ _ _ rfl) ?_); show P _ _ (aR _ _ :: _) _ _ _) | refine hP _ _ _ _ _ _ (And.intro (fun _ => ?_) (fun hc => absurd hc (by decide))) | refine hP _ _ _ _ _ _ (And.intro (fun hc => absurd hc (by decide)) (fun _ => ?_)))
    refine hP _ _ _ _ _ _ (Exists.intro (1) (And.intro (And.intro (rfl) (by show 1 < 3; omega)) ?_))
    rw [hprev 1 rfl]
    repeat (first | (refine hP _ _ _ _ _ _ ?_; show P _ _ _ _ _ _) | (refine hP _ _ _ _ _ _ (And.intro (hN _ _ _ rfl) ?_); show P _ _ (aR _ _ :: _) _ _ _) | refine hP _ _ _ _ _ _ (And.intro (fun _ => ?_) (fun hc => absurd hc (by decide))) | refine hP _ _ _ _ _ _ (And.intro (fun hc => absurd hc (by decide)) (fun _ => ?_)))
    exact first
