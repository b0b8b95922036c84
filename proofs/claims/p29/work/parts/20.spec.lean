/-! WHAT THE METHODS DO -/
/-- the references that are set for good -/
def nnr (j k : Nat) : Bool := cond (Nat.ble (clsP j) 6) (Nat.beq (fty (clsP j) k) 2 && Nat.ble (k + 1) (nFl (clsP j))) (Nat.ble 1 (rfk j) && !(Nat.beq j 3) && Nat.ble (k + 1) (aln (fun _ => 0) j 0))
def NN (S : St) : Prop := ∀ j g k, nnr j k = true → S.2.2.1 j g k = true
/-- a sum -/
def sm (f : Nat → Int32) : Nat → Int32
  | 0 => 0
  | n + 1 => sm f n + f n
theorem ix5 (a b : Nat) : nI a * 5 + nI b = nI (5 * a + b) := by
  rw [show (5 : Int32) = nI 5 from rfl, pk_mul, nI_add, Nat.mul_comm]
theorem sp_owing {d : Nat} {S : St} {K : KT} {f a b : Nat} (hd : 1 ≤ d) (hN : NN S) (ha : a < 5) (hb : b < 5) (h : K (some (aI (S.1 14 f (5 * a + b)))) S) : Call d m_X0_owing [aR 10 f, aI (nI a), aI (nI b)] S K := by
  refine Call.of (k := 0) hd (fun e he P hP => ?_)
  repeat (first | (refine hP _ _ _ _ _ _ ?_; show P _ _ _ _ _ _) | refine hP _ _ _ _ _ _ (And.intro (hN _ _ _ rfl) ?_))
  refine hP _ _ _ _ _ _ (Exists.intro (5 * a + b) (And.intro (And.intro (ix5 a b) (by show _ < 25; omega)) ?_))
  exact hP _ _ _ _ _ _ h
theorem sp_owes {d : Nat} {S : St} {K : KT} {f a n : Nat} (hd : 1 ≤ d) (hN : NN S) (hn : n ≤ 5) (hnn : S.1 10 f 1 = nI n) (ha : a < 5) (h : K (some (aI (sm (fun o => S.1 14 f (5 * a + o)) n))) S) : Call d m_X0_owes [aR 10 f, aI (nI a)] S K := by
  refine Call.of (k := 0) hd (fun e he P hP => ?_)
  have loop : ∀ m k, k + m = n → P 9 [some (aR 10 f), some (aI (nI a)), some (aI (sm (fun o => S.1 14 f (5 * a + o)) k)), some (aI (nI k))] [aI (S.1 10 f 1), aI (nI k)] S 0 0 := by
    intro m
    induction m with
    | zero =>
      intro k hk
      refine hP _ _ _ _ _ _ (And.intro (fun hc => ?_) (fun hc => ?_))
      · repeat (refine hP _ _ _ _ _ _ ?_; show P _ _ _ _ _ _)
        obtain rfl : k = n := by omega
        exact hP _ _ _ _ _ _ h
      · exact absurd (by rw [hnn]; exact nI_le (by omega) (by omega)) hc
    | succ m ih =>
      intro k hk
      refine hP _ _ _ _ _ _ (And.intro (fun hc => ?_) (fun hc => ?_))
      · exact absurd hc (by rw [hnn]; exact nI_ge (by omega) (by omega))
      · repeat (first | (refine hP _ _ _ _ _ _ ?_; show P _ _ _ _ _ _) | refine hP _ _ _ _ _ _ (And.intro (hN _ _ _ rfl) ?_))
        refine hP _ _ _ _ _ _ (Exists.intro (5 * a + k) (And.intro (And.intro (ix5 a k) (by show _ < 25; omega)) ?_))
        repeat (first | (refine hP _ _ _ _ _ _ ?_; show P _ _ _ _ _ _) | refine hP _ _ _ _ _ _ (And.intro (hN _ _ _ rfl) ?_))
        have := ih (k + 1) (by omega)
        rw [nI_succ] at this
        exact this
  repeat (refine hP _ _ _ _ _ _ ?_; show P _ _ _ _ _ _)
  exact loop n 0 (by omega)
