/-! the law's turn: a film, what it tells -/
theorem ff_no {p : Nat → Bool} : ∀ m k, (∀ i, k ≤ i → i < k + m → p i = false) → ff p m k = -1
  | 0, _, _ => rfl
  | m + 1, k, h => by
    show (if p k = true then nI k else ff p m (k + 1)) = -1
    rw [h k (Nat.le_refl k) (by omega), if_neg (by decide)]
    exact ff_no m (k + 1) (fun i h1 h2 => h i (by omega) (by omega))
theorem ff_eq {p q : Nat → Bool} : ∀ m k, (∀ i, k ≤ i → i < k + m → p i = q i) → ff p m k = ff q m k
  | 0, _, _ => rfl
  | m + 1, k, h => by
    show (if p k = true then nI k else ff p m (k + 1)) = (if q k = true then nI k else ff q m (k + 1))
    rw [h k (Nat.le_refl k) (by omega), ff_eq m (k + 1) (fun i h1 h2 => h i (by omega) (by omega))]
theorem lk_eq {f g : Nat → Bool} : ∀ n, (∀ i, i < n → f i = g i) → lkN f n = lkN g n
  | 0, _ => rfl
  | n + 1, h => by
    show (if f n = true then lkN f n ||| ((1 : Int32) <<< (nI n &&& 31)) else lkN f n) = (if g n = true then lkN g n ||| ((1 : Int32) <<< (nI n &&& 31)) else lkN g n)
    rw [h n (by omega), lk_eq n (fun i hi => h i (by omega))]
theorem cn_all {f : Nat → Bool} : ∀ n, (∀ i, i < n → f i = true) → cnT f n = n
  | 0, _ => rfl
  | n + 1, h => by
    show cnT f n + (if f n = true then 1 else 0) = n + 1
    rw [h n (by omega), if_pos rfl, cn_all n (fun i hi => h i (by omega))]
/-- what the film holds -/
def vF : Nat → Int32 := fun k => nI (wN 1 k)
/-- one who pays so much of a debt: as the film tells -/
def likeF (q : Nat → Nat) : Bool := decide (ff (fun o => decide (¬ nI (q o) = vF o)) 9 0 = -1)
theorem fo_q {F : Fl} {a : Nat} {q : Nat → Nat} (h : ∀ o, o < 9 → pyN tv0 F a o = q o) : decide (foN tv0 F a 9 vF = -1) = likeF q := by
  have e : foN tv0 F a 9 vF = ff (fun o => decide (¬ nI (q o) = vF o)) 9 0 := by
    unfold foN
    refine ff_eq 9 0 (fun i _ hi => ?_)
    unfold foP
    rw [h i (by omega)]
  unfold likeF
  rw [e]
theorem lk0 : likeF (fun o => wN 1 o) = true := by decide
theorem lk1 : likeF (fun o => wN 2 o) = false := by decide
theorem lk4 : likeF (fun o => wN (nI o) o) = false := by decide
theorem lk5 : likeF (fun o => wN 0 o) = false := by decide
theorem fo_0 {F : Fl} {a : Nat} (h : F.ki a = 0) : decide (foN tv0 F a 9 vF = -1) = true := (fo_q (fun o _ => py0 h o)).trans lk0
theorem py_k {F : Fl} {a : Nat} (o : Nat) (hr : F.rd = 1) : (F.ki a = 1 → pyN tv0 F a o = wN 2 o) ∧ (F.ki a = 2 → pyN tv0 F a o = wN 1 o) ∧ (F.ki a = 3 → pyN tv0 F a o = wN 2 o) ∧ (F.ki a = 4 → pyN tv0 F a o = wN (nI o) o) ∧ (F.ki a = 5 → pyN tv0 F a o = wN 0 o) := by
  have he : evR F = false := by
    unfold evR
    rw [hr]
    decide
  refine ⟨fun h => ?_, fun h => ?_, fun h => ?_, fun h => ?_, fun h => ?_⟩
  · unfold pyN
    rw [h]
    show wN (2 * vN tv0 F 0 a o) o = _
    rw [vN0]
    rfl
  · unfold pyN
    rw [h]
    rfl
  · unfold pyN
    rw [h]
    show wN (2 * vN tv0 F 0 a o + cond (evR F) (nI (F.nu a)) 0) o = _
    rw [vN0, he]
    rfl
  · unfold pyN
    rw [h]
    rfl
  · unfold pyN
    rw [h]
    rfl
theorem fT {n : Nat} {E : Fl} (h2 : 2 ≤ n) (h5 : n ≤ 5) (hn : E.n = n) (hr : E.rd = 1) (hk : P0 E) : teI tv0 1 E 9 vF 0 1 0 = -1 ∧ teI tv0 1 E 9 vF 0 1 2 = 1023 ∧ teI tv0 1 E 9 vF 0 1 3 = 100 ∧ teI tv0 1 E 9 vF 0 1 5 = 100 ∧ teI tv0 1 E 9 vF 0 1 8 = (((1 : Int32) <<< (nI n &&& 31)) - 1 &&& -3) ∧ teI tv0 1 E 9 vF 0 1 1 = 5 := by
  have t2 : ∀ k, tF tv0 E 2 0 9 vF k = true := fun k => fo_0 (F := stF E 2 0 0 k) (hk 0)
  have t0 : ∀ k, tF tv0 E 0 0 9 vF k = true := fun k => fo_0 (F := stF E 0 0 0 k) (hk 0)
  have t3 : ∀ k, tF tv0 E 3 0 9 vF k = true := fun k => fo_0 (F := stF E 3 0 0 k) (hk 0)
  refine ⟨of_decide_eq_true (fo_0 (F := E) (hk 0)), ?_, ?_, ?_, ?_, ?_⟩
  · show lkN (tF tv0 E 2 0 9 vF) 10 = 1023
    rw [lk_eq (g := fun _ => true) 10 (fun i _ => t2 i)]
    decide
  · show nI (cnT (tF tv0 E 0 0 9 vF) 100) = 100
    rw [cn_all 100 (fun i _ => t0 i)]
    rfl
  · show nI (cnT (tF tv0 E 3 0 9 vF) 100) = 100
    rw [cn_all 100 (fun i _ => t3 i)]
    rfl
  · show lkN (liF tv0 E 1 9 vF) E.n = _
    rw [hn, lk_eq (g := fun k => decide (¬ k = 1)) n (fun i _ => by
      unfold liF
      rw [fo_0 (hk i), Bool.and_true])]
    have h : ∀ n, n ≤ 5 → 2 ≤ n → lkN (fun k => decide (¬ k = 1)) n = (((1 : Int32) <<< (nI n &&& 31)) - 1 &&& -3) := by decide
    exact h n h5 h2
  · show lkN (tF tv0 E 5 0 9 vF) 6 = 5
    rw [lk_eq (g := fun k => decide (k = 0 ∨ k = 2)) 6 (fun i hi => ?_)]
    · decide
    · have hki : (stF E 5 0 0 i).ki 0 = i := (if_pos rfl : (if 0 = 0 then i else E.ki 0) = i)
      have hrd : (stF E 5 0 0 i).rd = 1 := hr
      show decide (foN tv0 (stF E 5 0 0 i) 0 9 vF = -1) = _
      generalize stF E 5 0 0 i = G at hki hrd ⊢
      rcases (show i = 0 ∨ i = 1 ∨ i = 2 ∨ i = 3 ∨ i = 4 ∨ i = 5 by omega) with rfl | rfl | rfl | rfl | rfl | rfl
      · exact fo_0 hki
      · exact (fo_q (fun o _ => (py_k o hrd).1 hki)).trans lk1
      · exact (fo_q (fun o _ => (py_k o hrd).2.1 hki)).trans lk0
      · exact (fo_q (fun o _ => (py_k o hrd).2.2.1 hki)).trans lk1
      · exact (fo_q (fun o _ => (py_k o hrd).2.2.2.1 hki)).trans lk4
      · exact (fo_q (fun o _ => (py_k o hrd).2.2.2.2 hki)).trans lk5
def SHf (S : St) : Prop := S.1 20 0 0 = nI 1 - 1 ∧ S.1 20 0 1 = nI 9 ∧ ∀ k, k < 9 → S.1 21 0 k = vF k
theorem SHf.th {S S' : St} (h : SHf S) (h1 : Ag wTH S S') : SHf S' :=
  ⟨by rw [h1.1 20 0 0 (by simp [wTH])]; exact h.1, by rw [h1.1 20 0 1 (by simp [wTH])]; exact h.2.1, fun k hk => by rw [h1.1 21 0 k (by simp [wTH])]; exact h.2.2 k hk⟩
theorem lw_11 {e : Nat} {P : PT} {K : KT} {t fc fs : Nat} (he : 300 ≤ e) (hP : ∀ pc L st S fc fs, F m_L_law (Call e) K P pc L st S fc fs → P pc L st S fc fs) {n D : Nat} (h2 : 2 ≤ n) (h5 : n ≤ 5) {E : Fl} (hn : E.n = n) (hr : E.rd = 1) (hk : P0 E) {d5 d6 d7 d8 d9 d10 d11 : Int32} (hnext : ∀ S, P 4 [some (aR 60 0), some (aI (nI (t + 1))), some (aR 0 0), some (aI (nI n)), some (aI (nI D)), some (aI d5), some (aI d6), some (aI d7), some (aI d8), some (aI d9), some (aI d10), some (aI d11)] [aI 3, aI (nI (t + 1))] S fc fs) {S : St} (hS : LW S E) : P 722 [some (aR 60 0), some (aI (nI t)), some (aR 0 0), some (aI (nI n)), some (aI (nI D)), some (aI d5), some (aI d6), some (aI d7), some (aI d8), some (aI d9), some (aI d10), some (aI d11)] [] S fc fs := by
  obtain ⟨f0, f2, f3, f5, f8, f1⟩ := fT h2 h5 hn hr hk
  have hN : True := trivial
  have a0 : 0 < E.n := by omega
  have a1 : 1 < E.n := by omega
  rw [nI_succ t] at hnext
  repeat (first | (refine hP _ _ _ _ _ _ ?_; show P _ _ _ _ _ _) | (refine hP _ _ _ _ _ _ (And.intro (hN _ _ _ rfl) ?_); show P _ _ (aR _ _ :: _) _ _ _))
  refine hP _ _ _ _ _ _ (c_film (g := 0) (a := 0) (b := 1) (n := 9) (by omega) hS.1 (by omega) a0 a1 (by omega) (by omega) (fun o ho => by rw [py0 (hk 0)]; exact wN_le 1 (by omega)) (fun S1 g1 s0 s1 s2 => ?_))
  have hS1 : LW S1 E := hS.up g1 (fun j g k z => by omega) (fun j k z => by omega) (fun j k z => by omega)
  have hH1 : SHf S1 := ⟨s0, s1, fun k hk9 => by rw [s2 k hk9, py0 (hk 0)]; rfl⟩
  repeat (first | (refine hP _ _ _ _ _ _ ?_; show P _ _ _ _ _ _) | (refine hP _ _ _ _ _ _ (And.intro (hN _ _ _ rfl) ?_); show P _ _ (aR _ _ :: _) _ _ _))
  refine hP _ _ _ _ _ _ (c_tellsx (g := 0) (a := 0) (o := 1) (sz := 9) (s := 1) (wh := 0) (v := vF) (by omega) hS1.1 (by omega) a0 a1 (by omega) (by omega) hH1.1 (by omega) (by omega) hH1.2.1 (by omega) hH1.2.2 hS1.2.2.2 (fun S2 g2 => ?_))
  have hS2 := hS1.th g2
  have hH2 := hH1.th g2
  rw [f0]
  repeat (first | (refine hP _ _ _ _ _ _ ?_; show P _ _ _ _ _ _) | (refine hP _ _ _ _ _ _ (And.intro (hN _ _ _ rfl) ?_); show P _ _ (aR _ _ :: _) _ _ _))
  refine hP _ _ _ _ _ _ (And.intro (fun hc => absurd hc (fun z => z rfl)) (fun _ => ?_))
  repeat (first | (refine hP _ _ _ _ _ _ ?_; show P _ _ _ _ _ _) | (refine hP _ _ _ _ _ _ (And.intro (hN _ _ _ rfl) ?_); show P _ _ (aR _ _ :: _) _ _ _))
  refine hP _ _ _ _ _ _ (c_tellsx (g := 0) (a := 0) (o := 1) (sz := 9) (s := 1) (wh := 2) (v := vF) (by omega) hS2.1 (by omega) a0 a1 (by omega) (by omega) hH2.1 (by omega) (by omega) hH2.2.1 (by omega) hH2.2.2 hS2.2.2.2 (fun S3 g3 => ?_))
  have hS3 := hS2.th g3
  have hH3 := hH2.th g3
  rw [f2]
  repeat (first | (refine hP _ _ _ _ _ _ ?_; show P _ _ _ _ _ _) | (refine hP _ _ _ _ _ _ (And.intro (hN _ _ _ rfl) ?_); show P _ _ (aR _ _ :: _) _ _ _))
  refine hP _ _ _ _ _ _ (And.intro (fun hc => absurd hc (fun z => z rfl)) (fun _ => ?_))
  repeat (first | (refine hP _ _ _ _ _ _ ?_; show P _ _ _ _ _ _) | (refine hP _ _ _ _ _ _ (And.intro (hN _ _ _ rfl) ?_); show P _ _ (aR _ _ :: _) _ _ _))
  refine hP _ _ _ _ _ _ (c_tellsx (g := 0) (a := 0) (o := 1) (sz := 9) (s := 1) (wh := 3) (v := vF) (by omega) hS3.1 (by omega) a0 a1 (by omega) (by omega) hH3.1 (by omega) (by omega) hH3.2.1 (by omega) hH3.2.2 hS3.2.2.2 (fun S4 g4 => ?_))
  have hS4 := hS3.th g4
  have hH4 := hH3.th g4
  rw [f3]
  repeat (first | (refine hP _ _ _ _ _ _ ?_; show P _ _ _ _ _ _) | (refine hP _ _ _ _ _ _ (And.intro (hN _ _ _ rfl) ?_); show P _ _ (aR _ _ :: _) _ _ _))
  refine hP _ _ _ _ _ _ (And.intro (fun hc => absurd hc (fun z => z rfl)) (fun _ => ?_))
  repeat (first | (refine hP _ _ _ _ _ _ ?_; show P _ _ _ _ _ _) | (refine hP _ _ _ _ _ _ (And.intro (hN _ _ _ rfl) ?_); show P _ _ (aR _ _ :: _) _ _ _))
  refine hP _ _ _ _ _ _ (c_tellsx (g := 0) (a := 0) (o := 1) (sz := 9) (s := 1) (wh := 5) (v := vF) (by omega) hS4.1 (by omega) a0 a1 (by omega) (by omega) hH4.1 (by omega) (by omega) hH4.2.1 (by omega) hH4.2.2 hS4.2.2.2 (fun S5 g5 => ?_))
  have hS5 := hS4.th g5
  have hH5 := hH4.th g5
  rw [f5]
  repeat (first | (refine hP _ _ _ _ _ _ ?_; show P _ _ _ _ _ _) | (refine hP _ _ _ _ _ _ (And.intro (hN _ _ _ rfl) ?_); show P _ _ (aR _ _ :: _) _ _ _))
  refine hP _ _ _ _ _ _ (And.intro (fun hc => absurd hc (fun z => z rfl)) (fun _ => ?_))
  repeat (first | (refine hP _ _ _ _ _ _ ?_; show P _ _ _ _ _ _) | (refine hP _ _ _ _ _ _ (And.intro (hN _ _ _ rfl) ?_); show P _ _ (aR _ _ :: _) _ _ _))
  refine hP _ _ _ _ _ _ (c_tellsx (g := 0) (a := 0) (o := 1) (sz := 9) (s := 1) (wh := 8) (v := vF) (by omega) hS5.1 (by omega) a0 a1 (by omega) (by omega) hH5.1 (by omega) (by omega) hH5.2.1 (by omega) hH5.2.2 hS5.2.2.2 (fun S6 g6 => ?_))
  have hS6 := hS5.th g6
  have hH6 := hH5.th g6
  rw [f8]
  repeat (first | (refine hP _ _ _ _ _ _ ?_; show P _ _ _ _ _ _) | (refine hP _ _ _ _ _ _ (And.intro (hN _ _ _ rfl) ?_); show P _ _ (aR _ _ :: _) _ _ _))
  refine hP _ _ _ _ _ _ (And.intro (fun hc => absurd hc (fun z => z rfl)) (fun _ => ?_))
  repeat (first | (refine hP _ _ _ _ _ _ ?_; show P _ _ _ _ _ _) | (refine hP _ _ _ _ _ _ (And.intro (hN _ _ _ rfl) ?_); show P _ _ (aR _ _ :: _) _ _ _))
  refine hP _ _ _ _ _ _ (c_tellsx (g := 0) (a := 0) (o := 1) (sz := 9) (s := 1) (wh := 1) (v := vF) (by omega) hS6.1 (by omega) a0 a1 (by omega) (by omega) hH6.1 (by omega) (by omega) hH6.2.1 (by omega) hH6.2.2 hS6.2.2.2 (fun S7 g7 => ?_))
  have := hnext S7
  rw [f1]
  repeat (first | (refine hP _ _ _ _ _ _ ?_; show P _ _ _ _ _ _) | (refine hP _ _ _ _ _ _ (And.intro (hN _ _ _ rfl) ?_); show P _ _ (aR _ _ :: _) _ _ _))
  refine hP _ _ _ _ _ _ (And.intro (fun _ => ?_) (fun hc => absurd rfl hc))
  repeat (first | (refine hP _ _ _ _ _ _ ?_; show P _ _ _ _ _ _) | (refine hP _ _ _ _ _ _ (And.intro (hN _ _ _ rfl) ?_); show P _ _ (aR _ _ :: _) _ _ _))
  exact this
