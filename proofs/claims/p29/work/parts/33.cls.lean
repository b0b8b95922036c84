/-! the class, out of claim whole -/
def wP (g : Nat) : WW := fun j i _ => i = g ∧ 10 ≤ j ∧ j ≤ 16
def wCC : WW := fun j g _ => (g = 0 ∧ (j = 0 ∨ j = 1 ∨ j = 3 ∨ j = 4 ∨ j = 5 ∨ j = 6 ∨ j = 7 ∨ j = 8 ∨ j = 9 ∨ j = 17 ∨ j = 18 ∨ j = 19 ∨ j = 30 ∨ j = 31 ∨ j = 32)) ∨ (g ≤ 4 ∧ 10 ≤ j ∧ j ≤ 16) ∨ (g ≤ 3 ∧ (j = 20 ∨ j = 21))
theorem rl0.ev {S S' : St} {W : WW} (h : rl0 S) (h1 : Ev W S S') (hw : ∀ j k, (j = 1 ∨ j = 3 ∨ j = 30 ∨ j = 31 ∨ j = 32) → ¬ W j 0 k) : rl0 S' := by
  obtain ⟨a1, a2, a3, a4, a5, ⟨a6, a7, a8⟩, a9, a10, a11⟩ := h
  refine ⟨a1.ev h1 (fun k => hw 1 k (by omega)), a2.ev h1 (fun k => hw 30 k (by omega)), (h1.1 3 0 0 (hw 3 0 (by omega))).2 a3, ?_, ?_, ⟨?_, ?_, ?_⟩, ?_, ?_, ?_⟩
  · rw [h1.2.2.2 0 (hw 31 0 (by omega))]; exact a4
  · rw [(h1.1 1 0 1 (hw 1 1 (by omega))).1]; exact a5
  · rw [(h1.1 31 0 0 (hw 31 0 (by omega))).1]; exact a6
  · rw [(h1.1 31 0 1 (hw 31 1 (by omega))).1]; exact a7
  · rw [(h1.1 31 0 2 (hw 31 2 (by omega))).1]; exact a8
  · rw [(h1.1 32 0 0 (hw 32 0 (by omega))).1]; exact a9
  · rw [(h1.1 32 0 1 (hw 32 1 (by omega))).1]; exact a10
  · rw [(h1.1 32 0 2 (hw 32 2 (by omega))).1]; exact a11
set_option maxHeartbeats 2000000 in
theorem q_Class_init {d : Nat} {S : St} {K : KT} (hd : 10 ≤ d) (hc : S.2.2.2.2 = 1) (h : ∀ S', Ev wCC S S' → S'.2.2.2.2 = 58 → NJ 0 0 S' → NJ 6 0 S' → NJ 7 0 S' → NJ 18 0 S' → (∀ g, g < 5 → NJ 10 g S') → (∀ g, g < 4 → NJ 20 g S' ∧ S'.1 20 g 0 = -1) → rl0 S' → K none S') : Call d m_X5_init [aR 0 0] S K := by
  refine Call.of (k := 9) hd (fun e he P hP => ?_)
  have hN : True := trivial
  repeat (first | (refine hP _ _ _ _ _ _ ?_; show P _ _ _ _ _ _) | (refine hP _ _ _ _ _ _ (And.intro (hN _ _ _ rfl) ?_); show P _ _ (aR _ _ :: _) _ _ _))
  refine hP _ _ _ _ _ _ (Exists.intro 1 (Exists.intro 0 ⟨by rw [hc]; rfl, rfl, (by show 0 + 1 ≤ 57; omega), (by show 0 + 4 ≤ 1066; omega), (fun z => by cases z), ?_⟩))
  repeat (first | (refine hP _ _ _ _ _ _ ?_; show P _ _ _ _ _ _) | (refine hP _ _ _ _ _ _ (And.intro (hN _ _ _ rfl) ?_); show P _ _ (aR _ _ :: _) _ _ _))
  refine hP _ _ _ _ _ _ (And.intro (by show 1 + 6 ≤ 57; omega) (And.intro (by show 4 + 180 ≤ 1066; omega) (q_Rules_init (by omega) (by show S.2.2.2.2 + 1 = 2; rw [hc]) (fun S2 e2 c2 r2 => And.intro (fun _ => by rw [c2]; show 8 = S.2.2.2.2 + 1 + 6; rw [hc]) ?_))))
  have v2 : Ev wCC S S2 := (Ev.mk (fun _ => by simp [wCC]) Ev.rf).tr (e2.mono (fun j g k z => by simp only [wRu] at z; simp only [wCC]; omega))
  repeat (first | (refine hP _ _ _ _ _ _ ?_; show P _ _ _ _ _ _) | (refine hP _ _ _ _ _ _ (And.intro (hN _ _ _ rfl) ?_); show P _ _ (aR _ _ :: _) _ _ _))
  refine hP _ _ _ _ _ _ (And.intro rfl ?_)
  repeat (first | (refine hP _ _ _ _ _ _ ?_; show P _ _ _ _ _ _) | (refine hP _ _ _ _ _ _ (And.intro (hN _ _ _ rfl) ?_); show P _ _ (aR _ _ :: _) _ _ _))
  refine hP _ _ _ _ _ _ (Exists.intro 10 (Exists.intro 0 ⟨by show idOf (S2.2.2.2.2) = _; rw [c2]; rfl, rfl, (by show 7 + 1 ≤ 57; omega), (by show 184 + 13 ≤ 1066; omega), (fun z => by cases z), ?_⟩))
  repeat (first | (refine hP _ _ _ _ _ _ ?_; show P _ _ _ _ _ _) | (refine hP _ _ _ _ _ _ (And.intro (hN _ _ _ rfl) ?_); show P _ _ (aR _ _ :: _) _ _ _))
  refine hP _ _ _ _ _ _ (And.intro (nn_mk (by omega) nn_at) ?_)
  show P _ _ (aR 1 0 :: _) _ _ _
  repeat (first | (refine hP _ _ _ _ _ _ ?_; show P _ _ _ _ _ _) | (refine hP _ _ _ _ _ _ (And.intro (hN _ _ _ rfl) ?_); show P _ _ (aR _ _ :: _) _ _ _))
  refine hP _ _ _ _ _ _ (And.intro (by show 8 + 6 ≤ 57; omega) (And.intro (by show 197 + 60 ≤ 1066; omega) (q_Floor_init (by omega) (by omega) (fun i hi => by show idOf (S2.2.2.2.2 + 1 + i) = _; rw [c2]; exact (by decide : ∀ i, i < 6 → idOf (9 + i) = (11 + i, 0)) i hi) (fun S3 e3 c3 j3 => And.intro (fun _ => c3) ?_))))
  have c3 : S3.2.2.2.2 = 15 := by rw [c3]; show S2.2.2.2.2 + 1 + 6 = 15; rw [c2]
  have u3 : Ev (fun j i k => wP 0 j i k) (nnSet S2 0 0 0) S3 := (Ev.mk (fun _ => by simp [wP]) Ev.rf).tr (e3.mono (fun j i k z => by simp only [wF0] at z; simp only [wP]; omega))
  have w3 : Ev (fun j i k => wP 0 j i k) S2 S3 := ((Ev.nn Ev.rf)).tr u3
  have v3 : Ev wCC S S3 := v2.tr (w3.mono (fun j i k z => by simp only [wP] at z; simp only [wCC]; omega))
  have r3 := r2.ev w3 (fun j k z => by simp only [wP]; omega)
  have n0_0 := (u3.1 0 0 0 (by simp [wP])).2 nn_at
  have j10_0 := j3
  repeat (first | (refine hP _ _ _ _ _ _ ?_; show P _ _ _ _ _ _) | (refine hP _ _ _ _ _ _ (And.intro (hN _ _ _ rfl) ?_); show P _ _ (aR _ _ :: _) _ _ _))
  refine hP _ _ _ _ _ _ (And.intro rfl ?_)
  repeat (first | (refine hP _ _ _ _ _ _ ?_; show P _ _ _ _ _ _) | (refine hP _ _ _ _ _ _ (And.intro (hN _ _ _ rfl) ?_); show P _ _ (aR _ _ :: _) _ _ _))
  refine hP _ _ _ _ _ _ (Exists.intro 10 (Exists.intro 1 ⟨by show idOf (S3.2.2.2.2) = _; rw [c3]; rfl, rfl, (by show 14 + 1 ≤ 57; omega), (by show 257 + 13 ≤ 1066; omega), (fun z => by cases z), ?_⟩))
  repeat (first | (refine hP _ _ _ _ _ _ ?_; show P _ _ _ _ _ _) | (refine hP _ _ _ _ _ _ (And.intro (hN _ _ _ rfl) ?_); show P _ _ (aR _ _ :: _) _ _ _))
  refine hP _ _ _ _ _ _ (And.intro (nn_mk (by omega) (nn_up n0_0)) ?_)
  show P _ _ (aR 1 0 :: _) _ _ _
  repeat (first | (refine hP _ _ _ _ _ _ ?_; show P _ _ _ _ _ _) | (refine hP _ _ _ _ _ _ (And.intro (hN _ _ _ rfl) ?_); show P _ _ (aR _ _ :: _) _ _ _))
  refine hP _ _ _ _ _ _ (And.intro (by show 15 + 6 ≤ 57; omega) (And.intro (by show 270 + 60 ≤ 1066; omega) (q_Floor_init (by omega) (by omega) (fun i hi => by show idOf (S3.2.2.2.2 + 1 + i) = _; rw [c3]; exact (by decide : ∀ i, i < 6 → idOf (16 + i) = (11 + i, 1)) i hi) (fun S4 e4 c4 j4 => And.intro (fun _ => c4) ?_))))
  have c4 : S4.2.2.2.2 = 22 := by rw [c4]; show S3.2.2.2.2 + 1 + 6 = 22; rw [c3]
  have u4 : Ev (fun j i k => wP 1 j i k) (nnSet S3 0 0 1) S4 := (Ev.mk (fun _ => by simp [wP]) Ev.rf).tr (e4.mono (fun j i k z => by simp only [wF0] at z; simp only [wP]; omega))
  have w4 : Ev (fun j i k => wP 1 j i k) S3 S4 := ((Ev.nn Ev.rf)).tr u4
  have v4 : Ev wCC S S4 := v3.tr (w4.mono (fun j i k z => by simp only [wP] at z; simp only [wCC]; omega))
  have r4 := r3.ev w4 (fun j k z => by simp only [wP]; omega)
  have n0_0 := (w4.1 0 0 0 (by simp [wP])).2 n0_0
  have n0_1 := (u4.1 0 0 1 (by simp [wP])).2 nn_at
  have j10_0 := j10_0.ev w4 (fun k => by simp [wP])
  have j10_1 := j4
  repeat (first | (refine hP _ _ _ _ _ _ ?_; show P _ _ _ _ _ _) | (refine hP _ _ _ _ _ _ (And.intro (hN _ _ _ rfl) ?_); show P _ _ (aR _ _ :: _) _ _ _))
  refine hP _ _ _ _ _ _ (And.intro rfl ?_)
  repeat (first | (refine hP _ _ _ _ _ _ ?_; show P _ _ _ _ _ _) | (refine hP _ _ _ _ _ _ (And.intro (hN _ _ _ rfl) ?_); show P _ _ (aR _ _ :: _) _ _ _))
  refine hP _ _ _ _ _ _ (Exists.intro 6 (Exists.intro 0 (Exists.intro 3 ⟨rfl, by omega, by show idOf S4.2.2.2.2 = _; rw [c4]; rfl, Or.inl ⟨rfl, rfl⟩, rfl, (by show 21 + 1 ≤ 57; omega), (by show 330 + 3 ≤ 1066; omega), ?_⟩)))
  repeat (first | (refine hP _ _ _ _ _ _ ?_; show P _ _ _ _ _ _) | (refine hP _ _ _ _ _ _ (And.intro (hN _ _ _ rfl) ?_); show P _ _ (aR _ _ :: _) _ _ _))
  refine hP _ _ _ _ _ _ (Exists.intro 10 (Exists.intro 2 ⟨by show idOf (S4.2.2.2.2 + 1) = _; rw [c4]; rfl, rfl, (by show 22 + 1 ≤ 57; omega), (by show 333 + 13 ≤ 1066; omega), (fun z => by cases z), ?_⟩))
  repeat (first | (refine hP _ _ _ _ _ _ ?_; show P _ _ _ _ _ _) | (refine hP _ _ _ _ _ _ (And.intro (hN _ _ _ rfl) ?_); show P _ _ (aR _ _ :: _) _ _ _))
  refine hP _ _ _ _ _ _ (And.intro (nn_mk (by omega) (nn_mk (by omega) (nn_up n0_0))) ?_)
  show P _ _ (aR 1 0 :: _) _ _ _
  repeat (first | (refine hP _ _ _ _ _ _ ?_; show P _ _ _ _ _ _) | (refine hP _ _ _ _ _ _ (And.intro (hN _ _ _ rfl) ?_); show P _ _ (aR _ _ :: _) _ _ _))
  refine hP _ _ _ _ _ _ (And.intro (by show 23 + 6 ≤ 57; omega) (And.intro (by show 346 + 60 ≤ 1066; omega) (q_Floor_init (by omega) (by omega) (fun i hi => by show idOf (S4.2.2.2.2 + 1 + 1 + i) = _; rw [c4]; exact (by decide : ∀ i, i < 6 → idOf (24 + i) = (11 + i, 2)) i hi) (fun S5 e5 c5 j5 => And.intro (fun _ => c5) ?_))))
  have c5 : S5.2.2.2.2 = 30 := by rw [c5]; show S4.2.2.2.2 + 1 + 1 + 6 = 30; rw [c4]
  have u5 : Ev (fun j i k => wP 2 j i k ∨ (j = 6 ∧ i = 0)) (nnSet S4 0 0 2) S5 := (Ev.mk (fun _ => by simp [wP]) (Ev.mk (fun _ => by simp [wP]) Ev.rf)).tr (e5.mono (fun j i k z => by simp only [wF0] at z; simp only [wP]; omega))
  have w5 : Ev (fun j i k => wP 2 j i k ∨ (j = 6 ∧ i = 0)) S4 S5 := ((Ev.nn Ev.rf)).tr u5
  have v5 : Ev wCC S S5 := v4.tr (w5.mono (fun j i k z => by simp only [wP] at z; simp only [wCC]; omega))
  have r5 := r4.ev w5 (fun j k z => by simp only [wP]; omega)
  have n0_0 := (w5.1 0 0 0 (by simp [wP])).2 n0_0
  have n0_1 := (w5.1 0 0 1 (by simp [wP])).2 n0_1
  have n0_2 := (u5.1 0 0 2 (by simp [wP])).2 nn_at
  have j10_0 := j10_0.ev w5 (fun k => by simp [wP])
  have j10_1 := j10_1.ev w5 (fun k => by simp [wP])
  have j10_2 := j5
  repeat (first | (refine hP _ _ _ _ _ _ ?_; show P _ _ _ _ _ _) | (refine hP _ _ _ _ _ _ (And.intro (hN _ _ _ rfl) ?_); show P _ _ (aR _ _ :: _) _ _ _))
  refine hP _ _ _ _ _ _ (Exists.intro 0 (And.intro (And.intro rfl (by show 0 < 3; omega)) (And.intro rfl ?_)))
  repeat (first | (refine hP _ _ _ _ _ _ ?_; show P _ _ _ _ _ _) | (refine hP _ _ _ _ _ _ (And.intro (hN _ _ _ rfl) ?_); show P _ _ (aR _ _ :: _) _ _ _))
  refine hP _ _ _ _ _ _ (Exists.intro 10 (Exists.intro 3 ⟨by show idOf (S5.2.2.2.2) = _; rw [c5]; rfl, rfl, (by show 29 + 1 ≤ 57; omega), (by show 406 + 13 ≤ 1066; omega), (fun z => by cases z), ?_⟩))
  repeat (first | (refine hP _ _ _ _ _ _ ?_; show P _ _ _ _ _ _) | (refine hP _ _ _ _ _ _ (And.intro (hN _ _ _ rfl) ?_); show P _ _ (aR _ _ :: _) _ _ _))
  refine hP _ _ _ _ _ _ (And.intro (nn_mk (by omega) (nn_up n0_0)) ?_)
  show P _ _ (aR 1 0 :: _) _ _ _
  repeat (first | (refine hP _ _ _ _ _ _ ?_; show P _ _ _ _ _ _) | (refine hP _ _ _ _ _ _ (And.intro (hN _ _ _ rfl) ?_); show P _ _ (aR _ _ :: _) _ _ _))
  refine hP _ _ _ _ _ _ (And.intro (by show 30 + 6 ≤ 57; omega) (And.intro (by show 419 + 60 ≤ 1066; omega) (q_Floor_init (by omega) (by omega) (fun i hi => by show idOf (S5.2.2.2.2 + 1 + i) = _; rw [c5]; exact (by decide : ∀ i, i < 6 → idOf (31 + i) = (11 + i, 3)) i hi) (fun S6 e6 c6 j6 => And.intro (fun _ => c6) ?_))))
  have c6 : S6.2.2.2.2 = 37 := by rw [c6]; show S5.2.2.2.2 + 1 + 6 = 37; rw [c5]
  have u6 : Ev (fun j i k => wP 3 j i k) (nnSet S5 6 0 0) S6 := (Ev.mk (fun _ => by simp [wP]) Ev.rf).tr (e6.mono (fun j i k z => by simp only [wF0] at z; simp only [wP]; omega))
  have w6 : Ev (fun j i k => wP 3 j i k) S5 S6 := ((Ev.nn Ev.rf)).tr u6
  have v6 : Ev wCC S S6 := v5.tr (w6.mono (fun j i k z => by simp only [wP] at z; simp only [wCC]; omega))
  have r6 := r5.ev w6 (fun j k z => by simp only [wP]; omega)
  have n0_0 := (w6.1 0 0 0 (by simp [wP])).2 n0_0
  have n0_1 := (w6.1 0 0 1 (by simp [wP])).2 n0_1
  have n0_2 := (w6.1 0 0 2 (by simp [wP])).2 n0_2
  have n6_0 := (u6.1 6 0 0 (by simp [wP])).2 nn_at
  have j10_0 := j10_0.ev w6 (fun k => by simp [wP])
  have j10_1 := j10_1.ev w6 (fun k => by simp [wP])
  have j10_2 := j10_2.ev w6 (fun k => by simp [wP])
  have j10_3 := j6
  repeat (first | (refine hP _ _ _ _ _ _ ?_; show P _ _ _ _ _ _) | (refine hP _ _ _ _ _ _ (And.intro (hN _ _ _ rfl) ?_); show P _ _ (aR _ _ :: _) _ _ _))
  refine hP _ _ _ _ _ _ (Exists.intro 1 (And.intro (And.intro rfl (by show 1 < 3; omega)) (And.intro rfl ?_)))
  repeat (first | (refine hP _ _ _ _ _ _ ?_; show P _ _ _ _ _ _) | (refine hP _ _ _ _ _ _ (And.intro (hN _ _ _ rfl) ?_); show P _ _ (aR _ _ :: _) _ _ _))
  refine hP _ _ _ _ _ _ (Exists.intro 10 (Exists.intro 4 ⟨by show idOf (S6.2.2.2.2) = _; rw [c6]; rfl, rfl, (by show 36 + 1 ≤ 57; omega), (by show 479 + 13 ≤ 1066; omega), (fun z => by cases z), ?_⟩))
  repeat (first | (refine hP _ _ _ _ _ _ ?_; show P _ _ _ _ _ _) | (refine hP _ _ _ _ _ _ (And.intro (hN _ _ _ rfl) ?_); show P _ _ (aR _ _ :: _) _ _ _))
  refine hP _ _ _ _ _ _ (And.intro (nn_mk (by omega) (nn_up n0_0)) ?_)
  show P _ _ (aR 1 0 :: _) _ _ _
  repeat (first | (refine hP _ _ _ _ _ _ ?_; show P _ _ _ _ _ _) | (refine hP _ _ _ _ _ _ (And.intro (hN _ _ _ rfl) ?_); show P _ _ (aR _ _ :: _) _ _ _))
  refine hP _ _ _ _ _ _ (And.intro (by show 37 + 6 ≤ 57; omega) (And.intro (by show 492 + 60 ≤ 1066; omega) (q_Floor_init (by omega) (by omega) (fun i hi => by show idOf (S6.2.2.2.2 + 1 + i) = _; rw [c6]; exact (by decide : ∀ i, i < 6 → idOf (38 + i) = (11 + i, 4)) i hi) (fun S7 e7 c7 j7 => And.intro (fun _ => c7) ?_))))
  have c7 : S7.2.2.2.2 = 44 := by rw [c7]; show S6.2.2.2.2 + 1 + 6 = 44; rw [c6]
  have u7 : Ev (fun j i k => wP 4 j i k) (nnSet S6 6 0 1) S7 := (Ev.mk (fun _ => by simp [wP]) Ev.rf).tr (e7.mono (fun j i k z => by simp only [wF0] at z; simp only [wP]; omega))
  have w7 : Ev (fun j i k => wP 4 j i k) S6 S7 := ((Ev.nn Ev.rf)).tr u7
  have v7 : Ev wCC S S7 := v6.tr (w7.mono (fun j i k z => by simp only [wP] at z; simp only [wCC]; omega))
  have r7 := r6.ev w7 (fun j k z => by simp only [wP]; omega)
  have n0_0 := (w7.1 0 0 0 (by simp [wP])).2 n0_0
  have n0_1 := (w7.1 0 0 1 (by simp [wP])).2 n0_1
  have n0_2 := (w7.1 0 0 2 (by simp [wP])).2 n0_2
  have n6_0 := (w7.1 6 0 0 (by simp [wP])).2 n6_0
  have n6_1 := (u7.1 6 0 1 (by simp [wP])).2 nn_at
  have j10_0 := j10_0.ev w7 (fun k => by simp [wP])
  have j10_1 := j10_1.ev w7 (fun k => by simp [wP])
  have j10_2 := j10_2.ev w7 (fun k => by simp [wP])
  have j10_3 := j10_3.ev w7 (fun k => by simp [wP])
  have j10_4 := j7
  repeat (first | (refine hP _ _ _ _ _ _ ?_; show P _ _ _ _ _ _) | (refine hP _ _ _ _ _ _ (And.intro (hN _ _ _ rfl) ?_); show P _ _ (aR _ _ :: _) _ _ _))
  refine hP _ _ _ _ _ _ (Exists.intro 2 (And.intro (And.intro rfl (by show 2 < 3; omega)) (And.intro rfl ?_)))
  repeat (first | (refine hP _ _ _ _ _ _ ?_; show P _ _ _ _ _ _) | (refine hP _ _ _ _ _ _ (And.intro (hN _ _ _ rfl) ?_); show P _ _ (aR _ _ :: _) _ _ _))
  refine hP _ _ _ _ _ _ (And.intro rfl ?_)
  repeat (first | (refine hP _ _ _ _ _ _ ?_; show P _ _ _ _ _ _) | (refine hP _ _ _ _ _ _ (And.intro (hN _ _ _ rfl) ?_); show P _ _ (aR _ _ :: _) _ _ _))
  refine hP _ _ _ _ _ _ (Exists.intro 7 (Exists.intro 0 ⟨by show idOf (S7.2.2.2.2) = _; rw [c7]; rfl, rfl, (by show 43 + 1 ≤ 57; omega), (by show 552 + 10 ≤ 1066; omega), (fun z => by cases z), ?_⟩))
  repeat (first | (refine hP _ _ _ _ _ _ ?_; show P _ _ _ _ _ _) | (refine hP _ _ _ _ _ _ (And.intro (hN _ _ _ rfl) ?_); show P _ _ (aR _ _ :: _) _ _ _))
  refine hP _ _ _ _ _ _ (And.intro (by show 44 + 3 ≤ 57; omega) (And.intro (by show 562 + 323 ≤ 1066; omega) (q_Reader_init (by omega) (by show S7.2.2.2.2 + 1 = 45; rw [c7]) (fun S8 e8 c8 j8 => And.intro (fun _ => by rw [c8]; show 48 = S7.2.2.2.2 + 1 + 3; rw [c7]) ?_))))
  have u8 : Ev (fun j i k => wRe j i k) (nnSet (nnSet S7 6 0 2) 0 0 3) S8 := (Ev.mk (fun _ => by simp [wRe]) Ev.rf).tr (e8.mono (fun j i k z => by simp only [wRe] at z; simp only [wRe]; omega))
  have w8 : Ev (fun j i k => wRe j i k) S7 S8 := ((Ev.nn (Ev.nn Ev.rf))).tr u8
  have v8 : Ev wCC S S8 := v7.tr (w8.mono (fun j i k z => by simp only [wRe] at z; simp only [wCC]; omega))
  have r8 := r7.ev w8 (fun j k z => by simp only [wRe]; omega)
  have n0_0 := (w8.1 0 0 0 (by simp [wRe])).2 n0_0
  have n0_1 := (w8.1 0 0 1 (by simp [wRe])).2 n0_1
  have n0_2 := (w8.1 0 0 2 (by simp [wRe])).2 n0_2
  have n6_0 := (w8.1 6 0 0 (by simp [wRe])).2 n6_0
  have n6_1 := (w8.1 6 0 1 (by simp [wRe])).2 n6_1
  have n6_2 := (u8.1 6 0 2 (by simp [wRe])).2 (nn_up nn_at)
  have n0_3 := (u8.1 0 0 3 (by simp [wRe])).2 nn_at
  have j10_0 := j10_0.ev w8 (fun k => by simp [wRe])
  have j10_1 := j10_1.ev w8 (fun k => by simp [wRe])
  have j10_2 := j10_2.ev w8 (fun k => by simp [wRe])
  have j10_3 := j10_3.ev w8 (fun k => by simp [wRe])
  have j10_4 := j10_4.ev w8 (fun k => by simp [wRe])
  have j7_0 := j8
  repeat (first | (refine hP _ _ _ _ _ _ ?_; show P _ _ _ _ _ _) | (refine hP _ _ _ _ _ _ (And.intro (hN _ _ _ rfl) ?_); show P _ _ (aR _ _ :: _) _ _ _))
  refine hP _ _ _ _ _ _ (And.intro rfl ?_)
  repeat (first | (refine hP _ _ _ _ _ _ ?_; show P _ _ _ _ _ _) | (refine hP _ _ _ _ _ _ (And.intro (hN _ _ _ rfl) ?_); show P _ _ (aR _ _ :: _) _ _ _))
  refine hP _ _ _ _ _ _ (Exists.intro 18 (Exists.intro 0 (Exists.intro 4 ⟨rfl, by omega, by show idOf S8.2.2.2.2 = _; rw [c8]; rfl, Or.inr (Or.inl ⟨rfl, rfl⟩), rfl, (by show 47 + 1 ≤ 57; omega), (by show 885 + 4 ≤ 1066; omega), ?_⟩)))
  repeat (first | (refine hP _ _ _ _ _ _ ?_; show P _ _ _ _ _ _) | (refine hP _ _ _ _ _ _ (And.intro (hN _ _ _ rfl) ?_); show P _ _ (aR _ _ :: _) _ _ _))
  refine hP _ _ _ _ _ _ (Exists.intro 20 (Exists.intro 0 ⟨by show idOf (S8.2.2.2.2 + 1) = _; rw [c8]; rfl, rfl, (by show 48 + 1 ≤ 57; omega), (by show 889 + 3 ≤ 1066; omega), (fun z => by cases z), ?_⟩))
  repeat (first | (refine hP _ _ _ _ _ _ ?_; show P _ _ _ _ _ _) | (refine hP _ _ _ _ _ _ (And.intro (hN _ _ _ rfl) ?_); show P _ _ (aR _ _ :: _) _ _ _))
  refine hP _ _ _ _ _ _ (And.intro (by show 49 + 1 ≤ 57; omega) (And.intro (by show 892 + 40 ≤ 1066; omega) (q_Sheet_init (by omega) (by omega) (by show idOf (S8.2.2.2.2 + 1 + 1) = _; rw [c8]; rfl) (fun S9 e9 c9 j9 s9 => And.intro (fun _ => c9) ?_))))
  have c9 : S9.2.2.2.2 = 51 := by rw [c9]; show S8.2.2.2.2 + 1 + 1 + 1 = 51; rw [c8]
  have u9 : Ev (fun j i k => wSg 0 j i k ∨ (j = 18 ∧ i = 0)) (nnSet S8 0 0 4) S9 := (Ev.mk (fun _ => by simp [wSg]) (Ev.mk (fun _ => by simp [wSg]) Ev.rf)).tr (e9.mono (fun j i k z => by simp only [wSg] at z; simp only [wSg]; omega))
  have w9 : Ev (fun j i k => wSg 0 j i k ∨ (j = 18 ∧ i = 0)) S8 S9 := ((Ev.nn Ev.rf)).tr u9
  have v9 : Ev wCC S S9 := v8.tr (w9.mono (fun j i k z => by simp only [wSg] at z; simp only [wCC]; omega))
  have r9 := r8.ev w9 (fun j k z => by simp only [wSg]; omega)
  have n0_0 := (w9.1 0 0 0 (by simp [wSg])).2 n0_0
  have n0_1 := (w9.1 0 0 1 (by simp [wSg])).2 n0_1
  have n0_2 := (w9.1 0 0 2 (by simp [wSg])).2 n0_2
  have n6_0 := (w9.1 6 0 0 (by simp [wSg])).2 n6_0
  have n6_1 := (w9.1 6 0 1 (by simp [wSg])).2 n6_1
  have n6_2 := (w9.1 6 0 2 (by simp [wSg])).2 n6_2
  have n0_3 := (w9.1 0 0 3 (by simp [wSg])).2 n0_3
  have n0_4 := (u9.1 0 0 4 (by simp [wSg])).2 nn_at
  have j10_0 := j10_0.ev w9 (fun k => by simp [wSg])
  have j10_1 := j10_1.ev w9 (fun k => by simp [wSg])
  have j10_2 := j10_2.ev w9 (fun k => by simp [wSg])
  have j10_3 := j10_3.ev w9 (fun k => by simp [wSg])
  have j10_4 := j10_4.ev w9 (fun k => by simp [wSg])
  have j7_0 := j7_0.ev w9 (fun k => by simp [wSg])
  have j20_0 := j9
  have s20_0 := s9
  repeat (first | (refine hP _ _ _ _ _ _ ?_; show P _ _ _ _ _ _) | (refine hP _ _ _ _ _ _ (And.intro (hN _ _ _ rfl) ?_); show P _ _ (aR _ _ :: _) _ _ _))
  refine hP _ _ _ _ _ _ (Exists.intro 0 (And.intro (And.intro rfl (by show 0 < 4; omega)) (And.intro rfl ?_)))
  repeat (first | (refine hP _ _ _ _ _ _ ?_; show P _ _ _ _ _ _) | (refine hP _ _ _ _ _ _ (And.intro (hN _ _ _ rfl) ?_); show P _ _ (aR _ _ :: _) _ _ _))
  refine hP _ _ _ _ _ _ (Exists.intro 20 (Exists.intro 1 ⟨by show idOf (S9.2.2.2.2) = _; rw [c9]; rfl, rfl, (by show 50 + 1 ≤ 57; omega), (by show 932 + 3 ≤ 1066; omega), (fun z => by cases z), ?_⟩))
  repeat (first | (refine hP _ _ _ _ _ _ ?_; show P _ _ _ _ _ _) | (refine hP _ _ _ _ _ _ (And.intro (hN _ _ _ rfl) ?_); show P _ _ (aR _ _ :: _) _ _ _))
  refine hP _ _ _ _ _ _ (And.intro (by show 51 + 1 ≤ 57; omega) (And.intro (by show 935 + 40 ≤ 1066; omega) (q_Sheet_init (by omega) (by omega) (by show idOf (S9.2.2.2.2 + 1) = _; rw [c9]; rfl) (fun S10 e10 c10 j10 s10 => And.intro (fun _ => c10) ?_))))
  have c10 : S10.2.2.2.2 = 53 := by rw [c10]; show S9.2.2.2.2 + 1 + 1 = 53; rw [c9]
  have u10 : Ev (fun j i k => wSg 1 j i k) (nnSet S9 18 0 0) S10 := (Ev.mk (fun _ => by simp [wSg]) Ev.rf).tr (e10.mono (fun j i k z => by simp only [wSg] at z; simp only [wSg]; omega))
  have w10 : Ev (fun j i k => wSg 1 j i k) S9 S10 := ((Ev.nn Ev.rf)).tr u10
  have v10 : Ev wCC S S10 := v9.tr (w10.mono (fun j i k z => by simp only [wSg] at z; simp only [wCC]; omega))
  have r10 := r9.ev w10 (fun j k z => by simp only [wSg]; omega)
  have n0_0 := (w10.1 0 0 0 (by simp [wSg])).2 n0_0
  have n0_1 := (w10.1 0 0 1 (by simp [wSg])).2 n0_1
  have n0_2 := (w10.1 0 0 2 (by simp [wSg])).2 n0_2
  have n6_0 := (w10.1 6 0 0 (by simp [wSg])).2 n6_0
  have n6_1 := (w10.1 6 0 1 (by simp [wSg])).2 n6_1
  have n6_2 := (w10.1 6 0 2 (by simp [wSg])).2 n6_2
  have n0_3 := (w10.1 0 0 3 (by simp [wSg])).2 n0_3
  have n0_4 := (w10.1 0 0 4 (by simp [wSg])).2 n0_4
  have n18_0 := (u10.1 18 0 0 (by simp [wSg])).2 nn_at
  have j10_0 := j10_0.ev w10 (fun k => by simp [wSg])
  have j10_1 := j10_1.ev w10 (fun k => by simp [wSg])
  have j10_2 := j10_2.ev w10 (fun k => by simp [wSg])
  have j10_3 := j10_3.ev w10 (fun k => by simp [wSg])
  have j10_4 := j10_4.ev w10 (fun k => by simp [wSg])
  have j7_0 := j7_0.ev w10 (fun k => by simp [wSg])
  have j20_0 := j20_0.ev w10 (fun k => by simp [wSg])
  have s20_0 := (w10.1 20 0 0 (by simp [wSg])).1.trans s20_0
  have j20_1 := j10
  have s20_1 := s10
  repeat (first | (refine hP _ _ _ _ _ _ ?_; show P _ _ _ _ _ _) | (refine hP _ _ _ _ _ _ (And.intro (hN _ _ _ rfl) ?_); show P _ _ (aR _ _ :: _) _ _ _))
  refine hP _ _ _ _ _ _ (Exists.intro 1 (And.intro (And.intro rfl (by show 1 < 4; omega)) (And.intro rfl ?_)))
  repeat (first | (refine hP _ _ _ _ _ _ ?_; show P _ _ _ _ _ _) | (refine hP _ _ _ _ _ _ (And.intro (hN _ _ _ rfl) ?_); show P _ _ (aR _ _ :: _) _ _ _))
  refine hP _ _ _ _ _ _ (Exists.intro 20 (Exists.intro 2 ⟨by show idOf (S10.2.2.2.2) = _; rw [c10]; rfl, rfl, (by show 52 + 1 ≤ 57; omega), (by show 975 + 3 ≤ 1066; omega), (fun z => by cases z), ?_⟩))
  repeat (first | (refine hP _ _ _ _ _ _ ?_; show P _ _ _ _ _ _) | (refine hP _ _ _ _ _ _ (And.intro (hN _ _ _ rfl) ?_); show P _ _ (aR _ _ :: _) _ _ _))
  refine hP _ _ _ _ _ _ (And.intro (by show 53 + 1 ≤ 57; omega) (And.intro (by show 978 + 40 ≤ 1066; omega) (q_Sheet_init (by omega) (by omega) (by show idOf (S10.2.2.2.2 + 1) = _; rw [c10]; rfl) (fun S11 e11 c11 j11 s11 => And.intro (fun _ => c11) ?_))))
  have c11 : S11.2.2.2.2 = 55 := by rw [c11]; show S10.2.2.2.2 + 1 + 1 = 55; rw [c10]
  have u11 : Ev (fun j i k => wSg 2 j i k) (nnSet S10 18 0 1) S11 := (Ev.mk (fun _ => by simp [wSg]) Ev.rf).tr (e11.mono (fun j i k z => by simp only [wSg] at z; simp only [wSg]; omega))
  have w11 : Ev (fun j i k => wSg 2 j i k) S10 S11 := ((Ev.nn Ev.rf)).tr u11
  have v11 : Ev wCC S S11 := v10.tr (w11.mono (fun j i k z => by simp only [wSg] at z; simp only [wCC]; omega))
  have r11 := r10.ev w11 (fun j k z => by simp only [wSg]; omega)
  have n0_0 := (w11.1 0 0 0 (by simp [wSg])).2 n0_0
  have n0_1 := (w11.1 0 0 1 (by simp [wSg])).2 n0_1
  have n0_2 := (w11.1 0 0 2 (by simp [wSg])).2 n0_2
  have n6_0 := (w11.1 6 0 0 (by simp [wSg])).2 n6_0
  have n6_1 := (w11.1 6 0 1 (by simp [wSg])).2 n6_1
  have n6_2 := (w11.1 6 0 2 (by simp [wSg])).2 n6_2
  have n0_3 := (w11.1 0 0 3 (by simp [wSg])).2 n0_3
  have n0_4 := (w11.1 0 0 4 (by simp [wSg])).2 n0_4
  have n18_0 := (w11.1 18 0 0 (by simp [wSg])).2 n18_0
  have n18_1 := (u11.1 18 0 1 (by simp [wSg])).2 nn_at
  have j10_0 := j10_0.ev w11 (fun k => by simp [wSg])
  have j10_1 := j10_1.ev w11 (fun k => by simp [wSg])
  have j10_2 := j10_2.ev w11 (fun k => by simp [wSg])
  have j10_3 := j10_3.ev w11 (fun k => by simp [wSg])
  have j10_4 := j10_4.ev w11 (fun k => by simp [wSg])
  have j7_0 := j7_0.ev w11 (fun k => by simp [wSg])
  have j20_0 := j20_0.ev w11 (fun k => by simp [wSg])
  have j20_1 := j20_1.ev w11 (fun k => by simp [wSg])
  have s20_0 := (w11.1 20 0 0 (by simp [wSg])).1.trans s20_0
  have s20_1 := (w11.1 20 1 0 (by simp [wSg])).1.trans s20_1
  have j20_2 := j11
  have s20_2 := s11
  repeat (first | (refine hP _ _ _ _ _ _ ?_; show P _ _ _ _ _ _) | (refine hP _ _ _ _ _ _ (And.intro (hN _ _ _ rfl) ?_); show P _ _ (aR _ _ :: _) _ _ _))
  refine hP _ _ _ _ _ _ (Exists.intro 2 (And.intro (And.intro rfl (by show 2 < 4; omega)) (And.intro rfl ?_)))
  repeat (first | (refine hP _ _ _ _ _ _ ?_; show P _ _ _ _ _ _) | (refine hP _ _ _ _ _ _ (And.intro (hN _ _ _ rfl) ?_); show P _ _ (aR _ _ :: _) _ _ _))
  refine hP _ _ _ _ _ _ (Exists.intro 20 (Exists.intro 3 ⟨by show idOf (S11.2.2.2.2) = _; rw [c11]; rfl, rfl, (by show 54 + 1 ≤ 57; omega), (by show 1018 + 3 ≤ 1066; omega), (fun z => by cases z), ?_⟩))
  repeat (first | (refine hP _ _ _ _ _ _ ?_; show P _ _ _ _ _ _) | (refine hP _ _ _ _ _ _ (And.intro (hN _ _ _ rfl) ?_); show P _ _ (aR _ _ :: _) _ _ _))
  refine hP _ _ _ _ _ _ (And.intro (by show 55 + 1 ≤ 57; omega) (And.intro (by show 1021 + 40 ≤ 1066; omega) (q_Sheet_init (by omega) (by omega) (by show idOf (S11.2.2.2.2 + 1) = _; rw [c11]; rfl) (fun S12 e12 c12 j12 s12 => And.intro (fun _ => c12) ?_))))
  have c12 : S12.2.2.2.2 = 57 := by rw [c12]; show S11.2.2.2.2 + 1 + 1 = 57; rw [c11]
  have u12 : Ev (fun j i k => wSg 3 j i k) (nnSet S11 18 0 2) S12 := (Ev.mk (fun _ => by simp [wSg]) Ev.rf).tr (e12.mono (fun j i k z => by simp only [wSg] at z; simp only [wSg]; omega))
  have w12 : Ev (fun j i k => wSg 3 j i k) S11 S12 := ((Ev.nn Ev.rf)).tr u12
  have v12 : Ev wCC S S12 := v11.tr (w12.mono (fun j i k z => by simp only [wSg] at z; simp only [wCC]; omega))
  have r12 := r11.ev w12 (fun j k z => by simp only [wSg]; omega)
  have n0_0 := (w12.1 0 0 0 (by simp [wSg])).2 n0_0
  have n0_1 := (w12.1 0 0 1 (by simp [wSg])).2 n0_1
  have n0_2 := (w12.1 0 0 2 (by simp [wSg])).2 n0_2
  have n6_0 := (w12.1 6 0 0 (by simp [wSg])).2 n6_0
  have n6_1 := (w12.1 6 0 1 (by simp [wSg])).2 n6_1
  have n6_2 := (w12.1 6 0 2 (by simp [wSg])).2 n6_2
  have n0_3 := (w12.1 0 0 3 (by simp [wSg])).2 n0_3
  have n0_4 := (w12.1 0 0 4 (by simp [wSg])).2 n0_4
  have n18_0 := (w12.1 18 0 0 (by simp [wSg])).2 n18_0
  have n18_1 := (w12.1 18 0 1 (by simp [wSg])).2 n18_1
  have n18_2 := (u12.1 18 0 2 (by simp [wSg])).2 nn_at
  have j10_0 := j10_0.ev w12 (fun k => by simp [wSg])
  have j10_1 := j10_1.ev w12 (fun k => by simp [wSg])
  have j10_2 := j10_2.ev w12 (fun k => by simp [wSg])
  have j10_3 := j10_3.ev w12 (fun k => by simp [wSg])
  have j10_4 := j10_4.ev w12 (fun k => by simp [wSg])
  have j7_0 := j7_0.ev w12 (fun k => by simp [wSg])
  have j20_0 := j20_0.ev w12 (fun k => by simp [wSg])
  have j20_1 := j20_1.ev w12 (fun k => by simp [wSg])
  have j20_2 := j20_2.ev w12 (fun k => by simp [wSg])
  have s20_0 := (w12.1 20 0 0 (by simp [wSg])).1.trans s20_0
  have s20_1 := (w12.1 20 1 0 (by simp [wSg])).1.trans s20_1
  have s20_2 := (w12.1 20 2 0 (by simp [wSg])).1.trans s20_2
  have j20_3 := j12
  have s20_3 := s12
  repeat (first | (refine hP _ _ _ _ _ _ ?_; show P _ _ _ _ _ _) | (refine hP _ _ _ _ _ _ (And.intro (hN _ _ _ rfl) ?_); show P _ _ (aR _ _ :: _) _ _ _))
  refine hP _ _ _ _ _ _ (Exists.intro 3 (And.intro (And.intro rfl (by show 3 < 4; omega)) (And.intro rfl ?_)))
  repeat (first | (refine hP _ _ _ _ _ _ ?_; show P _ _ _ _ _ _) | (refine hP _ _ _ _ _ _ (And.intro (hN _ _ _ rfl) ?_); show P _ _ (aR _ _ :: _) _ _ _))
  refine hP _ _ _ _ _ _ (And.intro rfl ?_)
  repeat (first | (refine hP _ _ _ _ _ _ ?_; show P _ _ _ _ _ _) | (refine hP _ _ _ _ _ _ (And.intro (hN _ _ _ rfl) ?_); show P _ _ (aR _ _ :: _) _ _ _))
  refine hP _ _ _ _ _ _ (Exists.intro 19 (Exists.intro 0 (Exists.intro 5 ⟨rfl, by omega, by show idOf S12.2.2.2.2 = _; rw [c12]; rfl, by omega, rfl, Or.inr rfl, (by show 56 + 1 ≤ 57; omega), (by show 1061 + 5 ≤ 1066; omega), ?_⟩)))
  repeat (first | (refine hP _ _ _ _ _ _ ?_; show P _ _ _ _ _ _) | (refine hP _ _ _ _ _ _ (And.intro (hN _ _ _ rfl) ?_); show P _ _ (aR _ _ :: _) _ _ _))
  refine hP _ _ _ _ _ _ (And.intro rfl ?_)
  repeat (first | (refine hP _ _ _ _ _ _ ?_; show P _ _ _ _ _ _) | (refine hP _ _ _ _ _ _ (And.intro (hN _ _ _ rfl) ?_); show P _ _ (aR _ _ :: _) _ _ _))
  have w : Ev (fun j i _ => j = 19 ∧ i = 0) S12 (nnSet (mkC (nnSet (nnSet S12 18 0 3) 0 0 5) 19 0 5) 0 0 7) := Ev.nn (Ev.mk (fun _ => by simp) (Ev.nn (Ev.nn Ev.rf)))
  refine hP _ _ _ _ _ _ (h (nnSet (mkC (nnSet (nnSet S12 18 0 3) 0 0 5) 19 0 5) 0 0 7) (v12.tr (w.mono (fun j i k z => by simp only [wCC]; omega))) (by show S12.2.2.2.2 + 1 = 58; rw [c12]) (fun k hk => ?_) (fun k hk => ?_) (j7_0.ev w (fun k => by simp)) (fun k hk => ?_) (fun g hg => ?_) (fun g hg => ?_) (r12.ev w (fun j k z => by omega)))
  · rcases nnr0 k hk with rfl | rfl | rfl | rfl | rfl | rfl | rfl
    · exact (w.1 0 0 0 (by simp)).2 n0_0
    · exact (w.1 0 0 1 (by simp)).2 n0_1
    · exact (w.1 0 0 2 (by simp)).2 n0_2
    · exact (w.1 0 0 3 (by simp)).2 n0_3
    · exact (w.1 0 0 4 (by simp)).2 n0_4
    · exact nn_up (nn_mk (by omega) nn_at)
    · exact nn_at
  · rcases nnr6 k hk with rfl | rfl | rfl
    · exact (w.1 6 0 0 (by simp)).2 n6_0
    · exact (w.1 6 0 1 (by simp)).2 n6_1
    · exact (w.1 6 0 2 (by simp)).2 n6_2
  · rcases nnr18 k hk with rfl | rfl | rfl | rfl
    · exact (w.1 18 0 0 (by simp)).2 n18_0
    · exact (w.1 18 0 1 (by simp)).2 n18_1
    · exact (w.1 18 0 2 (by simp)).2 n18_2
    · exact nn_up (nn_mk (by omega) (nn_up nn_at))
  · rcases (show g = 0 ∨ g = 1 ∨ g = 2 ∨ g = 3 ∨ g = 4 by omega) with rfl | rfl | rfl | rfl | rfl
    · exact j10_0.ev w (fun k => by simp)
    · exact j10_1.ev w (fun k => by simp)
    · exact j10_2.ev w (fun k => by simp)
    · exact j10_3.ev w (fun k => by simp)
    · exact j10_4.ev w (fun k => by simp)
  · rcases (show g = 0 ∨ g = 1 ∨ g = 2 ∨ g = 3 by omega) with rfl | rfl | rfl | rfl
    · exact ⟨j20_0.ev w (fun k => by simp), (w.1 20 0 0 (by simp)).1.trans s20_0⟩
    · exact ⟨j20_1.ev w (fun k => by simp), (w.1 20 1 0 (by simp)).1.trans s20_1⟩
    · exact ⟨j20_2.ev w (fun k => by simp), (w.1 20 2 0 (by simp)).1.trans s20_2⟩
    · exact ⟨j20_3.ev w (fun k => by simp), (w.1 20 3 0 (by simp)).1.trans s20_3⟩

