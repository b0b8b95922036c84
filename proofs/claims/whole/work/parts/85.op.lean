/-! copy: the model's loop -/
/-- copied from lo up to hi -/
def cyM (S S1 : St) (g i h j lo hi : Nat) : Prop := ∀ p, S1.1 58 0 p = if 40 * h + j + lo ≤ p ∧ p < 40 * h + j + hi then S.1 58 0 (40 * g + i + (p - (40 * h + j))) else S.1 58 0 p
theorem n_copyL {N1 g i h j n b : Nat} {S : St} {K : KT} {P : PT} {e : Nat} (hN : NN S) (hP : ∀ pc L st S fc fs, F m_X6_copy (Call e) K P pc L st S fc fs → P pc L st S fc fs) (hg : g < 4) (hh : h < 4) (hi : i + n ≤ 40) (hj : j + n ≤ 40) (hb : b = if g = h ∧ i < j then 1 else 0)
    (hK : ∀ S', Ag (fun j _ k => j = 58 ∧ 40 * h ≤ k ∧ k < 40 * h + 40) S S' → cyM S S' g i h j 0 n → K (some (aI (nI n))) S') : ∀ t, t ≤ n → ∀ S1 x, Ag (fun j _ k => j = 58 ∧ 40 * h ≤ k ∧ k < 40 * h + 40) S S1 → cyM S S1 g i h j (if b = 1 then n - t else 0) (if b = 1 then n else t) → P 125 [some (aR 40 0), some (aI (nI g)), some (aI (nI i)), some (aI (nI h)), some (aI (nI j)), some (aI (nI n)), some (aI (nI b)), some (aI (nI t)), x] [aI (nI n), aI (nI t)] S1 0 0 := by
  refine dn ?_ ?_
  · intro S1 x g1 c1
    have c2 : cyM S S1 g i h j 0 n := by
      by_cases e : b = 1
      · rw [if_pos e, if_pos e, Nat.sub_self] at c1
        exact c1
      · rw [if_neg e, if_neg e] at c1
        exact c1
    refine hP _ _ _ _ _ _ (And.intro (fun _ => ?_) (fun hc => absurd (nI_le (Nat.le_refl n) (by omega)) hc))
    repeat (first | (refine hP _ _ _ _ _ _ ?_; show P _ _ _ _ _ _) | (refine hP _ _ _ _ _ _ (And.intro (hN _ _ _ rfl) ?_); show P _ _ (aR _ _ :: _) _ _ _))
    exact hP _ _ _ _ _ _ (hK S1 g1 c2)
  · intro t ht ih S1 x g1 c1
    have hN1 := hN.up g1
    have hN := hN1
    have go : ∀ k, k < n → cyM S (ivSet S1 58 0 (40 * h + j + k) (S1.1 58 0 (40 * g + i + k))) g i h j (if b = 1 then n - (t + 1) else 0) (if b = 1 then n else t + 1) → P 174 [some (aR 40 0), some (aI (nI g)), some (aI (nI i)), some (aI (nI h)), some (aI (nI j)), some (aI (nI n)), some (aI (nI b)), some (aI (nI t)), some (aI (nI k))] [aI (40 * nI g + nI i + nI k), aR 58 0, aI (40 * nI h + nI j + nI k), aR 58 0] S1 0 0 := by
      intro k hk c2
      have := ih (ivSet S1 58 0 (40 * h + j + k) (S1.1 58 0 (40 * g + i + k))) (some (aI (nI k))) (g1.tr (Ag.iv ⟨rfl, by omega, by omega⟩)) c2
      rw [nI_succ t] at this
      rw [jx40, nI_add, jx40, nI_add]
      refine hP _ _ _ _ _ _ (Exists.intro (40 * g + i + k) (And.intro (And.intro (rfl) (by show _ < 160; omega)) ?_))
      repeat (first | (refine hP _ _ _ _ _ _ ?_; show P _ _ _ _ _ _) | (refine hP _ _ _ _ _ _ (And.intro (hN _ _ _ rfl) ?_); show P _ _ (aR _ _ :: _) _ _ _))
      refine hP _ _ _ _ _ _ (Exists.intro (40 * h + j + k) (And.intro (And.intro (rfl) (by show _ < 160; omega)) ?_))
      repeat (first | (refine hP _ _ _ _ _ _ ?_; show P _ _ _ _ _ _) | (refine hP _ _ _ _ _ _ (And.intro (hN _ _ _ rfl) ?_); show P _ _ (aR _ _ :: _) _ _ _))
      exact this
    have nob : b = 1 → g = h ∧ i < j := fun e => by
      by_cases c : g = h ∧ i < j
      · exact c
      · rw [if_neg c] at hb
        omega
    have no0 : ¬ b = 1 → ¬ (g = h ∧ i < j) := fun e c => by
      rw [if_pos c] at hb
      exact e hb
    refine hP _ _ _ _ _ _ (And.intro (fun hc => absurd hc (nI_ge ht (by omega))) (fun _ => ?_))
    repeat (first | (refine hP _ _ _ _ _ _ ?_; show P _ _ _ _ _ _) | (refine hP _ _ _ _ _ _ (And.intro (hN _ _ _ rfl) ?_); show P _ _ (aR _ _ :: _) _ _ _))
    by_cases e : b = 1
    · obtain ⟨rfl, hij⟩ := nob e
      rw [if_pos e, if_pos e] at c1 go
      obtain ⟨m, rfl⟩ : ∃ m, n = m + 1 := ⟨n - 1, by omega⟩
      have c2 : cyM S (ivSet S1 58 0 (40 * g + j + (m - t)) (S1.1 58 0 (40 * g + i + (m - t)))) g i g j (m + 1 - (t + 1)) (m + 1) := by
        intro p
        by_cases ep : p = 40 * g + j + (m - t)
        · have q1 : ¬ (40 * g + j + (m + 1 - t) ≤ 40 * g + i + (m - t) ∧ 40 * g + i + (m - t) < 40 * g + j + (m + 1)) := by omega
          have q2 : 40 * g + j + (m + 1 - (t + 1)) ≤ 40 * g + j + (m - t) ∧ 40 * g + j + (m - t) < 40 * g + j + (m + 1) := by omega
          rw [ep, iv_at, c1 (40 * g + i + (m - t)), if_neg q1, if_pos q2, show 40 * g + j + (m - t) - (40 * g + j) = m - t by omega]
        · rw [iv_ne (by omega), c1 p]
          by_cases c : 40 * g + j + (m + 1 - t) ≤ p ∧ p < 40 * g + j + (m + 1)
          · rw [if_pos c, if_pos (by omega)]
          · rw [if_neg c, if_neg (by omega)]
      have := go (m - t) (by omega) c2
      rw [← nI_subR (show t ≤ m by omega) (by omega), ← nI_pred m] at this
      refine hP _ _ _ _ _ _ (And.intro (fun hc => absurd hc (nI_nz (by omega) (by omega))) (fun _ => ?_))
      repeat (first | (refine hP _ _ _ _ _ _ ?_; show P _ _ _ _ _ _) | (refine hP _ _ _ _ _ _ (And.intro (hN _ _ _ rfl) ?_); show P _ _ (aR _ _ :: _) _ _ _))
      exact this
    · have hnot := no0 e
      have e0 : b = 0 := by
        rw [if_neg hnot] at hb
        exact hb
      rw [if_neg e, if_neg e] at c1 go
      have c2 : cyM S (ivSet S1 58 0 (40 * h + j + t) (S1.1 58 0 (40 * g + i + t))) g i h j 0 (t + 1) := by
        intro p
        by_cases ep : p = 40 * h + j + t
        · have q1 : ¬ (40 * h + j + 0 ≤ 40 * g + i + t ∧ 40 * g + i + t < 40 * h + j + t) := by
            by_cases gh : g = h
            · subst gh
              have : ¬ i < j := fun z => hnot ⟨rfl, z⟩
              omega
            · omega
          have q2 : 40 * h + j + 0 ≤ 40 * h + j + t ∧ 40 * h + j + t < 40 * h + j + (t + 1) := by omega
          rw [ep, iv_at, c1 (40 * g + i + t), if_neg q1, if_pos q2, show 40 * h + j + t - (40 * h + j) = t by omega]
        · rw [iv_ne (by omega), c1 p]
          by_cases c : 40 * h + j + 0 ≤ p ∧ p < 40 * h + j + t
          · rw [if_pos c, if_pos (by omega)]
          · rw [if_neg c, if_neg (by omega)]
      have := go t ht c2
      subst e0
      refine hP _ _ _ _ _ _ (And.intro (fun _ => ?_) (fun hc => absurd (by decide) hc))
      repeat (first | (refine hP _ _ _ _ _ _ ?_; show P _ _ _ _ _ _) | (refine hP _ _ _ _ _ _ (And.intro (hN _ _ _ rfl) ?_); show P _ _ (aR _ _ :: _) _ _ _))
      exact this
