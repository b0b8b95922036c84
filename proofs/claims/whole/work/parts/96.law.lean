/-! the law's loop -/
theorem le6 {L i : Nat} (hL : L ≤ 3072) (hi : i ≤ 3078) : (nI L - 6 < nI i) ↔ ¬ i + 6 ≤ L := by
  have e1 : (nI i).toInt = i := nI_toInt (by omega)
  have e3 : (nI L).toInt = L := nI_toInt (by omega)
  have e2 : (6 : Int32).toInt = 6 := by decide
  have e4 : (nI L - 6).toInt = (L : Int) - 6 := by
    rw [Int32.toInt_sub, e2, e3, Int.bmod_eq_of_le (by omega) (by omega)]
  rw [Int32.lt_iff_toInt_lt, e1, e4]
  omega
/-- where the loop stands -/
def lwL (i : Nat) : List (Option AV) := [some (aR 60 0), some (aR 0 0), some (aR 40 0), some (aI (nI i))]
theorem lw_set {e : Nat} {P : PT} {K : KT} {xs : Nat → Int32} {L i fc fs : Nat} {S : St} (he : 300 ≤ e) (hP : ∀ pc L st S fc fs, F m_L_law (Call e) K P pc L st S fc fs → P pc L st S fc fs) (hxs : ∀ pc ll st S fc fs, ((∀ k, S.1 60 0 k = xs k) ∧ S.2.2.2.1 1000 = L → P pc ll st S fc fs) → P pc ll st S fc fs) (hS : (∀ k, S.1 60 0 k = xs k) ∧ S.2.2.2.1 1000 = L) (hi : i + 6 ≤ L) (hT : TTx S) (hfc : fc + 1000 ≤ 600000) (hfs : fs + 165 ≤ 7302250) (h : ∀ S2, TTx S2 → P 1022 (lwL i) [] S2 (fc + 0) (fs + 0)) : P 152 (lwL i) [] S fc fs := by
  have hN : True := trivial
  obtain ⟨hs1, hs2⟩ := hS
  unfold lwL at h ⊢
  repeat (first | (refine hP _ _ _ _ _ _ ?_; show P _ _ _ _ _ _) | (refine hP _ _ _ _ _ _ (And.intro (hN _ _ _ rfl) ?_); show P _ _ (aR _ _ :: _) _ _ _))
  refine hP _ _ _ _ _ _ (Exists.intro (i + 1) (And.intro (And.intro (nI_1 i) (by show i + 1 < S.2.2.2.1 1000; omega)) ?_))
  repeat (first | (refine hP _ _ _ _ _ _ ?_; show P _ _ _ _ _ _) | (refine hP _ _ _ _ _ _ (And.intro (hN _ _ _ rfl) ?_); show P _ _ (aR _ _ :: _) _ _ _))
  refine hP _ _ _ _ _ _ (Exists.intro (i + 2) (And.intro (And.intro (nI_add i 2) (by show i + 2 < S.2.2.2.1 1000; omega)) ?_))
  repeat (first | (refine hP _ _ _ _ _ _ ?_; show P _ _ _ _ _ _) | (refine hP _ _ _ _ _ _ (And.intro (hN _ _ _ rfl) ?_); show P _ _ (aR _ _ :: _) _ _ _))
  refine hP _ _ _ _ _ _ (Exists.intro (i + 3) (And.intro (And.intro (nI_add i 3) (by show i + 3 < S.2.2.2.1 1000; omega)) ?_))
  repeat (first | (refine hP _ _ _ _ _ _ ?_; show P _ _ _ _ _ _) | (refine hP _ _ _ _ _ _ (And.intro (hN _ _ _ rfl) ?_); show P _ _ (aR _ _ :: _) _ _ _))
  refine hP _ _ _ _ _ _ (op_set (S.1 60 0 (i + 1)) (S.1 60 0 (i + 2)) (S.1 60 0 (i + 3)) e S _ (by omega) hT (fun S1 x ok _ hm => ?_))
  obtain ⟨v, rfl⟩ := ok
  show P _ _ _ _ _ _
  refine hxs _ _ _ _ _ _ (fun q1 => ?_)
  obtain ⟨q1, q2⟩ := q1
  have x1 : ∀ k, S1.1 60 0 k = S.1 60 0 k := fun k => by rw [q1, hs1]
  repeat (first | (refine hP _ _ _ _ _ _ ?_; show P _ _ _ _ _ _) | (refine hP _ _ _ _ _ _ (And.intro (hN _ _ _ rfl) ?_); show P _ _ (aR _ _ :: _) _ _ _))
  refine hP _ _ _ _ _ _ (Exists.intro (i + 1) (And.intro (And.intro (nI_1 i) (by show i + 1 < S1.2.2.2.1 1000; omega)) ?_))
  rw [x1]
  repeat (first | (refine hP _ _ _ _ _ _ ?_; show P _ _ _ _ _ _) | (refine hP _ _ _ _ _ _ (And.intro (hN _ _ _ rfl) ?_); show P _ _ (aR _ _ :: _) _ _ _))
  refine hP _ _ _ _ _ _ (Exists.intro (i + 2) (And.intro (And.intro (nI_add i 2) (by show i + 2 < S1.2.2.2.1 1000; omega)) ?_))
  rw [x1]
  repeat (first | (refine hP _ _ _ _ _ _ ?_; show P _ _ _ _ _ _) | (refine hP _ _ _ _ _ _ (And.intro (hN _ _ _ rfl) ?_); show P _ _ (aR _ _ :: _) _ _ _))
  refine hP _ _ _ _ _ _ (Exists.intro (i + 3) (And.intro (And.intro (nI_add i 3) (by show i + 3 < S1.2.2.2.1 1000; omega)) ?_))
  rw [x1]
  repeat (first | (refine hP _ _ _ _ _ _ ?_; show P _ _ _ _ _ _) | (refine hP _ _ _ _ _ _ (And.intro (hN _ _ _ rfl) ?_); show P _ _ (aR _ _ :: _) _ _ _))
  refine hP _ _ _ _ _ _ (hm e _ (by omega) (fun S2 hT2 => ?_))
  repeat (first | (refine hP _ _ _ _ _ _ ?_; show P _ _ _ _ _ _) | (refine hP _ _ _ _ _ _ (And.intro (hN _ _ _ rfl) ?_); show P _ _ (aR _ _ :: _) _ _ _))
  refine hP _ _ _ _ _ _ (And.intro (fun _ => ?_) (fun hc => absurd rfl hc))
  exact h S2 hT2
theorem lw_dancer {e : Nat} {P : PT} {K : KT} {xs : Nat → Int32} {L i fc fs : Nat} {S : St} (he : 300 ≤ e) (hP : ∀ pc L st S fc fs, F m_L_law (Call e) K P pc L st S fc fs → P pc L st S fc fs) (hxs : ∀ pc ll st S fc fs, ((∀ k, S.1 60 0 k = xs k) ∧ S.2.2.2.1 1000 = L → P pc ll st S fc fs) → P pc ll st S fc fs) (hS : (∀ k, S.1 60 0 k = xs k) ∧ S.2.2.2.1 1000 = L) (hi : i + 6 ≤ L) (hT : TTx S) (hfc : fc + 1000 ≤ 600000) (hfs : fs + 165 ≤ 7302250) (h : ∀ S2, TTx S2 → P 1022 (lwL i) [] S2 (fc + 0) (fs + 0)) : P 195 (lwL i) [] S fc fs := by
  have hN : True := trivial
  obtain ⟨hs1, hs2⟩ := hS
  unfold lwL at h ⊢
  repeat (first | (refine hP _ _ _ _ _ _ ?_; show P _ _ _ _ _ _) | (refine hP _ _ _ _ _ _ (And.intro (hN _ _ _ rfl) ?_); show P _ _ (aR _ _ :: _) _ _ _))
  refine hP _ _ _ _ _ _ (Exists.intro (i + 1) (And.intro (And.intro (nI_1 i) (by show i + 1 < S.2.2.2.1 1000; omega)) ?_))
  repeat (first | (refine hP _ _ _ _ _ _ ?_; show P _ _ _ _ _ _) | (refine hP _ _ _ _ _ _ (And.intro (hN _ _ _ rfl) ?_); show P _ _ (aR _ _ :: _) _ _ _))
  refine hP _ _ _ _ _ _ (Exists.intro (i + 2) (And.intro (And.intro (nI_add i 2) (by show i + 2 < S.2.2.2.1 1000; omega)) ?_))
  repeat (first | (refine hP _ _ _ _ _ _ ?_; show P _ _ _ _ _ _) | (refine hP _ _ _ _ _ _ (And.intro (hN _ _ _ rfl) ?_); show P _ _ (aR _ _ :: _) _ _ _))
  refine hP _ _ _ _ _ _ (op_dancer (S.1 60 0 (i + 1)) (S.1 60 0 (i + 2)) e S _ (by omega) hT (fun S1 x ok _ hm => ?_))
  obtain ⟨v, rfl⟩ := ok
  show P _ _ _ _ _ _
  refine hxs _ _ _ _ _ _ (fun q1 => ?_)
  obtain ⟨q1, q2⟩ := q1
  have x1 : ∀ k, S1.1 60 0 k = S.1 60 0 k := fun k => by rw [q1, hs1]
  repeat (first | (refine hP _ _ _ _ _ _ ?_; show P _ _ _ _ _ _) | (refine hP _ _ _ _ _ _ (And.intro (hN _ _ _ rfl) ?_); show P _ _ (aR _ _ :: _) _ _ _))
  refine hP _ _ _ _ _ _ (Exists.intro (i + 1) (And.intro (And.intro (nI_1 i) (by show i + 1 < S1.2.2.2.1 1000; omega)) ?_))
  rw [x1]
  repeat (first | (refine hP _ _ _ _ _ _ ?_; show P _ _ _ _ _ _) | (refine hP _ _ _ _ _ _ (And.intro (hN _ _ _ rfl) ?_); show P _ _ (aR _ _ :: _) _ _ _))
  refine hP _ _ _ _ _ _ (Exists.intro (i + 2) (And.intro (And.intro (nI_add i 2) (by show i + 2 < S1.2.2.2.1 1000; omega)) ?_))
  rw [x1]
  repeat (first | (refine hP _ _ _ _ _ _ ?_; show P _ _ _ _ _ _) | (refine hP _ _ _ _ _ _ (And.intro (hN _ _ _ rfl) ?_); show P _ _ (aR _ _ :: _) _ _ _))
  refine hP _ _ _ _ _ _ (hm e _ (by omega) (fun S2 hT2 => ?_))
  repeat (first | (refine hP _ _ _ _ _ _ ?_; show P _ _ _ _ _ _) | (refine hP _ _ _ _ _ _ (And.intro (hN _ _ _ rfl) ?_); show P _ _ (aR _ _ :: _) _ _ _))
  refine hP _ _ _ _ _ _ (And.intro (fun _ => ?_) (fun hc => absurd rfl hc))
  exact h S2 hT2
theorem lw_told {e : Nat} {P : PT} {K : KT} {xs : Nat → Int32} {L i fc fs : Nat} {S : St} (he : 300 ≤ e) (hP : ∀ pc L st S fc fs, F m_L_law (Call e) K P pc L st S fc fs → P pc L st S fc fs) (hxs : ∀ pc ll st S fc fs, ((∀ k, S.1 60 0 k = xs k) ∧ S.2.2.2.1 1000 = L → P pc ll st S fc fs) → P pc ll st S fc fs) (hS : (∀ k, S.1 60 0 k = xs k) ∧ S.2.2.2.1 1000 = L) (hi : i + 6 ≤ L) (hT : TTx S) (hfc : fc + 1000 ≤ 600000) (hfs : fs + 165 ≤ 7302250) (h : ∀ S2, TTx S2 → P 1022 (lwL i) [] S2 (fc + 0) (fs + 0)) : P 228 (lwL i) [] S fc fs := by
  have hN : True := trivial
  obtain ⟨hs1, hs2⟩ := hS
  unfold lwL at h ⊢
  repeat (first | (refine hP _ _ _ _ _ _ ?_; show P _ _ _ _ _ _) | (refine hP _ _ _ _ _ _ (And.intro (hN _ _ _ rfl) ?_); show P _ _ (aR _ _ :: _) _ _ _))
  refine hP _ _ _ _ _ _ (Exists.intro (i + 1) (And.intro (And.intro (nI_1 i) (by show i + 1 < S.2.2.2.1 1000; omega)) ?_))
  repeat (first | (refine hP _ _ _ _ _ _ ?_; show P _ _ _ _ _ _) | (refine hP _ _ _ _ _ _ (And.intro (hN _ _ _ rfl) ?_); show P _ _ (aR _ _ :: _) _ _ _))
  refine hP _ _ _ _ _ _ (Exists.intro (i + 2) (And.intro (And.intro (nI_add i 2) (by show i + 2 < S.2.2.2.1 1000; omega)) ?_))
  repeat (first | (refine hP _ _ _ _ _ _ ?_; show P _ _ _ _ _ _) | (refine hP _ _ _ _ _ _ (And.intro (hN _ _ _ rfl) ?_); show P _ _ (aR _ _ :: _) _ _ _))
  refine hP _ _ _ _ _ _ (op_told (S.1 60 0 (i + 1)) (S.1 60 0 (i + 2)) e S _ (by omega) hT (fun S1 x ok _ hm => ?_))
  obtain ⟨v, rfl⟩ := ok
  show P _ _ _ _ _ _
  refine hxs _ _ _ _ _ _ (fun q1 => ?_)
  obtain ⟨q1, q2⟩ := q1
  have x1 : ∀ k, S1.1 60 0 k = S.1 60 0 k := fun k => by rw [q1, hs1]
  repeat (first | (refine hP _ _ _ _ _ _ ?_; show P _ _ _ _ _ _) | (refine hP _ _ _ _ _ _ (And.intro (hN _ _ _ rfl) ?_); show P _ _ (aR _ _ :: _) _ _ _))
  refine hP _ _ _ _ _ _ (Exists.intro (i + 1) (And.intro (And.intro (nI_1 i) (by show i + 1 < S1.2.2.2.1 1000; omega)) ?_))
  rw [x1]
  repeat (first | (refine hP _ _ _ _ _ _ ?_; show P _ _ _ _ _ _) | (refine hP _ _ _ _ _ _ (And.intro (hN _ _ _ rfl) ?_); show P _ _ (aR _ _ :: _) _ _ _))
  refine hP _ _ _ _ _ _ (Exists.intro (i + 2) (And.intro (And.intro (nI_add i 2) (by show i + 2 < S1.2.2.2.1 1000; omega)) ?_))
  rw [x1]
  repeat (first | (refine hP _ _ _ _ _ _ ?_; show P _ _ _ _ _ _) | (refine hP _ _ _ _ _ _ (And.intro (hN _ _ _ rfl) ?_); show P _ _ (aR _ _ :: _) _ _ _))
  refine hP _ _ _ _ _ _ (hm e _ (by omega) (fun S2 hT2 => ?_))
  repeat (first | (refine hP _ _ _ _ _ _ ?_; show P _ _ _ _ _ _) | (refine hP _ _ _ _ _ _ (And.intro (hN _ _ _ rfl) ?_); show P _ _ (aR _ _ :: _) _ _ _))
  refine hP _ _ _ _ _ _ (And.intro (fun _ => ?_) (fun hc => absurd rfl hc))
  exact h S2 hT2
theorem lw_asks {e : Nat} {P : PT} {K : KT} {xs : Nat → Int32} {L i fc fs : Nat} {S : St} (he : 300 ≤ e) (hP : ∀ pc L st S fc fs, F m_L_law (Call e) K P pc L st S fc fs → P pc L st S fc fs) (hxs : ∀ pc ll st S fc fs, ((∀ k, S.1 60 0 k = xs k) ∧ S.2.2.2.1 1000 = L → P pc ll st S fc fs) → P pc ll st S fc fs) (hS : (∀ k, S.1 60 0 k = xs k) ∧ S.2.2.2.1 1000 = L) (hi : i + 6 ≤ L) (hT : TTx S) (hfc : fc + 1000 ≤ 600000) (hfs : fs + 165 ≤ 7302250) (h : ∀ S2, TTx S2 → P 1022 (lwL i) [] S2 (fc + 0) (fs + 0)) : P 261 (lwL i) [] S fc fs := by
  have hN : True := trivial
  obtain ⟨hs1, hs2⟩ := hS
  unfold lwL at h ⊢
  repeat (first | (refine hP _ _ _ _ _ _ ?_; show P _ _ _ _ _ _) | (refine hP _ _ _ _ _ _ (And.intro (hN _ _ _ rfl) ?_); show P _ _ (aR _ _ :: _) _ _ _))
  refine hP _ _ _ _ _ _ (Exists.intro (i + 1) (And.intro (And.intro (nI_1 i) (by show i + 1 < S.2.2.2.1 1000; omega)) ?_))
  repeat (first | (refine hP _ _ _ _ _ _ ?_; show P _ _ _ _ _ _) | (refine hP _ _ _ _ _ _ (And.intro (hN _ _ _ rfl) ?_); show P _ _ (aR _ _ :: _) _ _ _))
  refine hP _ _ _ _ _ _ (Exists.intro (i + 2) (And.intro (And.intro (nI_add i 2) (by show i + 2 < S.2.2.2.1 1000; omega)) ?_))
  repeat (first | (refine hP _ _ _ _ _ _ ?_; show P _ _ _ _ _ _) | (refine hP _ _ _ _ _ _ (And.intro (hN _ _ _ rfl) ?_); show P _ _ (aR _ _ :: _) _ _ _))
  refine hP _ _ _ _ _ _ (Exists.intro (i + 3) (And.intro (And.intro (nI_add i 3) (by show i + 3 < S.2.2.2.1 1000; omega)) ?_))
  repeat (first | (refine hP _ _ _ _ _ _ ?_; show P _ _ _ _ _ _) | (refine hP _ _ _ _ _ _ (And.intro (hN _ _ _ rfl) ?_); show P _ _ (aR _ _ :: _) _ _ _))
  refine hP _ _ _ _ _ _ (op_asks (S.1 60 0 (i + 1)) (S.1 60 0 (i + 2)) (S.1 60 0 (i + 3)) e S _ (by omega) hT (fun S1 x ok _ hm => ?_))
  obtain ⟨v, rfl⟩ := ok
  show P _ _ _ _ _ _
  refine hxs _ _ _ _ _ _ (fun q1 => ?_)
  obtain ⟨q1, q2⟩ := q1
  have x1 : ∀ k, S1.1 60 0 k = S.1 60 0 k := fun k => by rw [q1, hs1]
  repeat (first | (refine hP _ _ _ _ _ _ ?_; show P _ _ _ _ _ _) | (refine hP _ _ _ _ _ _ (And.intro (hN _ _ _ rfl) ?_); show P _ _ (aR _ _ :: _) _ _ _))
  refine hP _ _ _ _ _ _ (Exists.intro (i + 1) (And.intro (And.intro (nI_1 i) (by show i + 1 < S1.2.2.2.1 1000; omega)) ?_))
  rw [x1]
  repeat (first | (refine hP _ _ _ _ _ _ ?_; show P _ _ _ _ _ _) | (refine hP _ _ _ _ _ _ (And.intro (hN _ _ _ rfl) ?_); show P _ _ (aR _ _ :: _) _ _ _))
  refine hP _ _ _ _ _ _ (Exists.intro (i + 2) (And.intro (And.intro (nI_add i 2) (by show i + 2 < S1.2.2.2.1 1000; omega)) ?_))
  rw [x1]
  repeat (first | (refine hP _ _ _ _ _ _ ?_; show P _ _ _ _ _ _) | (refine hP _ _ _ _ _ _ (And.intro (hN _ _ _ rfl) ?_); show P _ _ (aR _ _ :: _) _ _ _))
  refine hP _ _ _ _ _ _ (Exists.intro (i + 3) (And.intro (And.intro (nI_add i 3) (by show i + 3 < S1.2.2.2.1 1000; omega)) ?_))
  rw [x1]
  repeat (first | (refine hP _ _ _ _ _ _ ?_; show P _ _ _ _ _ _) | (refine hP _ _ _ _ _ _ (And.intro (hN _ _ _ rfl) ?_); show P _ _ (aR _ _ :: _) _ _ _))
  refine hP _ _ _ _ _ _ (hm e _ (by omega) (fun S2 hT2 => ?_))
  repeat (first | (refine hP _ _ _ _ _ _ ?_; show P _ _ _ _ _ _) | (refine hP _ _ _ _ _ _ (And.intro (hN _ _ _ rfl) ?_); show P _ _ (aR _ _ :: _) _ _ _))
  refine hP _ _ _ _ _ _ (And.intro (fun _ => ?_) (fun hc => absurd rfl hc))
  exact h S2 hT2
theorem lw_feed {e : Nat} {P : PT} {K : KT} {xs : Nat → Int32} {L i fc fs : Nat} {S : St} (he : 300 ≤ e) (hP : ∀ pc L st S fc fs, F m_L_law (Call e) K P pc L st S fc fs → P pc L st S fc fs) (hxs : ∀ pc ll st S fc fs, ((∀ k, S.1 60 0 k = xs k) ∧ S.2.2.2.1 1000 = L → P pc ll st S fc fs) → P pc ll st S fc fs) (hS : (∀ k, S.1 60 0 k = xs k) ∧ S.2.2.2.1 1000 = L) (hi : i + 6 ≤ L) (hT : TTx S) (hfc : fc + 1000 ≤ 600000) (hfs : fs + 165 ≤ 7302250) (h : ∀ S2, TTx S2 → P 1022 (lwL i) [] S2 (fc + 0) (fs + 0)) : P 304 (lwL i) [] S fc fs := by
  have hN : True := trivial
  obtain ⟨hs1, hs2⟩ := hS
  unfold lwL at h ⊢
  repeat (first | (refine hP _ _ _ _ _ _ ?_; show P _ _ _ _ _ _) | (refine hP _ _ _ _ _ _ (And.intro (hN _ _ _ rfl) ?_); show P _ _ (aR _ _ :: _) _ _ _))
  refine hP _ _ _ _ _ _ (Exists.intro (i + 1) (And.intro (And.intro (nI_1 i) (by show i + 1 < S.2.2.2.1 1000; omega)) ?_))
  repeat (first | (refine hP _ _ _ _ _ _ ?_; show P _ _ _ _ _ _) | (refine hP _ _ _ _ _ _ (And.intro (hN _ _ _ rfl) ?_); show P _ _ (aR _ _ :: _) _ _ _))
  refine hP _ _ _ _ _ _ (op_feed (S.1 60 0 (i + 1)) e S _ (by omega) hT (fun S1 x ok _ hm => ?_))
  obtain ⟨v, rfl⟩ := ok
  show P _ _ _ _ _ _
  refine hxs _ _ _ _ _ _ (fun q1 => ?_)
  obtain ⟨q1, q2⟩ := q1
  have x1 : ∀ k, S1.1 60 0 k = S.1 60 0 k := fun k => by rw [q1, hs1]
  repeat (first | (refine hP _ _ _ _ _ _ ?_; show P _ _ _ _ _ _) | (refine hP _ _ _ _ _ _ (And.intro (hN _ _ _ rfl) ?_); show P _ _ (aR _ _ :: _) _ _ _))
  refine hP _ _ _ _ _ _ (Exists.intro (i + 1) (And.intro (And.intro (nI_1 i) (by show i + 1 < S1.2.2.2.1 1000; omega)) ?_))
  rw [x1]
  repeat (first | (refine hP _ _ _ _ _ _ ?_; show P _ _ _ _ _ _) | (refine hP _ _ _ _ _ _ (And.intro (hN _ _ _ rfl) ?_); show P _ _ (aR _ _ :: _) _ _ _))
  refine hP _ _ _ _ _ _ (hm e _ (by omega) (fun S2 hT2 => ?_))
  repeat (first | (refine hP _ _ _ _ _ _ ?_; show P _ _ _ _ _ _) | (refine hP _ _ _ _ _ _ (And.intro (hN _ _ _ rfl) ?_); show P _ _ (aR _ _ :: _) _ _ _))
  refine hP _ _ _ _ _ _ (And.intro (fun _ => ?_) (fun hc => absurd rfl hc))
  exact h S2 hT2
theorem lw_text {e : Nat} {P : PT} {K : KT} {xs : Nat → Int32} {L i fc fs : Nat} {S : St} (he : 300 ≤ e) (hP : ∀ pc L st S fc fs, F m_L_law (Call e) K P pc L st S fc fs → P pc L st S fc fs) (hxs : ∀ pc ll st S fc fs, ((∀ k, S.1 60 0 k = xs k) ∧ S.2.2.2.1 1000 = L → P pc ll st S fc fs) → P pc ll st S fc fs) (hS : (∀ k, S.1 60 0 k = xs k) ∧ S.2.2.2.1 1000 = L) (hi : i + 6 ≤ L) (hT : TTx S) (hfc : fc + 1000 ≤ 600000) (hfs : fs + 165 ≤ 7302250) (h : ∀ S2, TTx S2 → P 1022 (lwL i) [] S2 (fc + 1000) (fs + 165)) : P 327 (lwL i) [] S fc fs := by
  have hN : True := trivial
  obtain ⟨hs1, hs2⟩ := hS
  unfold lwL at h ⊢
  repeat (first | (refine hP _ _ _ _ _ _ ?_; show P _ _ _ _ _ _) | (refine hP _ _ _ _ _ _ (And.intro (hN _ _ _ rfl) ?_); show P _ _ (aR _ _ :: _) _ _ _))
  refine hP _ _ _ _ _ _ (And.intro hfc (And.intro hfs (op_text e S _ (by omega) hT (fun S1 x ok _ hm => And.intro (fun z => absurd (show (1000 : Nat) < 100 from z) (by omega)) ?_))))
  obtain ⟨v, rfl⟩ := ok
  show P _ _ _ _ _ _
  refine hxs _ _ _ _ _ _ (fun q1 => ?_)
  obtain ⟨q1, q2⟩ := q1
  have x1 : ∀ k, S1.1 60 0 k = S.1 60 0 k := fun k => by rw [q1, hs1]
  repeat (first | (refine hP _ _ _ _ _ _ ?_; show P _ _ _ _ _ _) | (refine hP _ _ _ _ _ _ (And.intro (hN _ _ _ rfl) ?_); show P _ _ (aR _ _ :: _) _ _ _))
  refine hP _ _ _ _ _ _ (hm e _ (by omega) (fun S2 hT2 => ?_))
  repeat (first | (refine hP _ _ _ _ _ _ ?_; show P _ _ _ _ _ _) | (refine hP _ _ _ _ _ _ (And.intro (hN _ _ _ rfl) ?_); show P _ _ (aR _ _ :: _) _ _ _))
  refine hP _ _ _ _ _ _ (And.intro (fun _ => ?_) (fun hc => absurd rfl hc))
  exact h S2 hT2
theorem lw_force {e : Nat} {P : PT} {K : KT} {xs : Nat → Int32} {L i fc fs : Nat} {S : St} (he : 300 ≤ e) (hP : ∀ pc L st S fc fs, F m_L_law (Call e) K P pc L st S fc fs → P pc L st S fc fs) (hxs : ∀ pc ll st S fc fs, ((∀ k, S.1 60 0 k = xs k) ∧ S.2.2.2.1 1000 = L → P pc ll st S fc fs) → P pc ll st S fc fs) (hS : (∀ k, S.1 60 0 k = xs k) ∧ S.2.2.2.1 1000 = L) (hi : i + 6 ≤ L) (hT : TTx S) (hfc : fc + 1000 ≤ 600000) (hfs : fs + 165 ≤ 7302250) (h : ∀ S2, TTx S2 → P 1022 (lwL i) [] S2 (fc + 0) (fs + 0)) : P 340 (lwL i) [] S fc fs := by
  have hN : True := trivial
  obtain ⟨hs1, hs2⟩ := hS
  unfold lwL at h ⊢
  repeat (first | (refine hP _ _ _ _ _ _ ?_; show P _ _ _ _ _ _) | (refine hP _ _ _ _ _ _ (And.intro (hN _ _ _ rfl) ?_); show P _ _ (aR _ _ :: _) _ _ _))
  refine hP _ _ _ _ _ _ (Exists.intro (i + 1) (And.intro (And.intro (nI_1 i) (by show i + 1 < S.2.2.2.1 1000; omega)) ?_))
  repeat (first | (refine hP _ _ _ _ _ _ ?_; show P _ _ _ _ _ _) | (refine hP _ _ _ _ _ _ (And.intro (hN _ _ _ rfl) ?_); show P _ _ (aR _ _ :: _) _ _ _))
  refine hP _ _ _ _ _ _ (op_force (S.1 60 0 (i + 1)) e S _ (by omega) hT (fun S1 x ok _ hm => ?_))
  obtain ⟨v, rfl⟩ := ok
  show P _ _ _ _ _ _
  refine hxs _ _ _ _ _ _ (fun q1 => ?_)
  obtain ⟨q1, q2⟩ := q1
  have x1 : ∀ k, S1.1 60 0 k = S.1 60 0 k := fun k => by rw [q1, hs1]
  repeat (first | (refine hP _ _ _ _ _ _ ?_; show P _ _ _ _ _ _) | (refine hP _ _ _ _ _ _ (And.intro (hN _ _ _ rfl) ?_); show P _ _ (aR _ _ :: _) _ _ _))
  refine hP _ _ _ _ _ _ (Exists.intro (i + 1) (And.intro (And.intro (nI_1 i) (by show i + 1 < S1.2.2.2.1 1000; omega)) ?_))
  rw [x1]
  repeat (first | (refine hP _ _ _ _ _ _ ?_; show P _ _ _ _ _ _) | (refine hP _ _ _ _ _ _ (And.intro (hN _ _ _ rfl) ?_); show P _ _ (aR _ _ :: _) _ _ _))
  refine hP _ _ _ _ _ _ (hm e _ (by omega) (fun S2 hT2 => ?_))
  repeat (first | (refine hP _ _ _ _ _ _ ?_; show P _ _ _ _ _ _) | (refine hP _ _ _ _ _ _ (And.intro (hN _ _ _ rfl) ?_); show P _ _ (aR _ _ :: _) _ _ _))
  refine hP _ _ _ _ _ _ (And.intro (fun _ => ?_) (fun hc => absurd rfl hc))
  exact h S2 hT2
theorem lw_dance {e : Nat} {P : PT} {K : KT} {xs : Nat → Int32} {L i fc fs : Nat} {S : St} (he : 300 ≤ e) (hP : ∀ pc L st S fc fs, F m_L_law (Call e) K P pc L st S fc fs → P pc L st S fc fs) (hxs : ∀ pc ll st S fc fs, ((∀ k, S.1 60 0 k = xs k) ∧ S.2.2.2.1 1000 = L → P pc ll st S fc fs) → P pc ll st S fc fs) (hS : (∀ k, S.1 60 0 k = xs k) ∧ S.2.2.2.1 1000 = L) (hi : i + 6 ≤ L) (hT : TTx S) (hfc : fc + 1000 ≤ 600000) (hfs : fs + 165 ≤ 7302250) (h : ∀ S2, TTx S2 → P 1022 (lwL i) [] S2 (fc + 0) (fs + 0)) : P 363 (lwL i) [] S fc fs := by
  have hN : True := trivial
  obtain ⟨hs1, hs2⟩ := hS
  unfold lwL at h ⊢
  repeat (first | (refine hP _ _ _ _ _ _ ?_; show P _ _ _ _ _ _) | (refine hP _ _ _ _ _ _ (And.intro (hN _ _ _ rfl) ?_); show P _ _ (aR _ _ :: _) _ _ _))
  refine hP _ _ _ _ _ _ (Exists.intro (i + 1) (And.intro (And.intro (nI_1 i) (by show i + 1 < S.2.2.2.1 1000; omega)) ?_))
  repeat (first | (refine hP _ _ _ _ _ _ ?_; show P _ _ _ _ _ _) | (refine hP _ _ _ _ _ _ (And.intro (hN _ _ _ rfl) ?_); show P _ _ (aR _ _ :: _) _ _ _))
  refine hP _ _ _ _ _ _ (Exists.intro (i + 2) (And.intro (And.intro (nI_add i 2) (by show i + 2 < S.2.2.2.1 1000; omega)) ?_))
  repeat (first | (refine hP _ _ _ _ _ _ ?_; show P _ _ _ _ _ _) | (refine hP _ _ _ _ _ _ (And.intro (hN _ _ _ rfl) ?_); show P _ _ (aR _ _ :: _) _ _ _))
  refine hP _ _ _ _ _ _ (op_dance (S.1 60 0 (i + 1)) (S.1 60 0 (i + 2)) e S _ (by omega) hT (fun S1 x ok _ hm => ?_))
  obtain ⟨v, rfl⟩ := ok
  show P _ _ _ _ _ _
  refine hxs _ _ _ _ _ _ (fun q1 => ?_)
  obtain ⟨q1, q2⟩ := q1
  have x1 : ∀ k, S1.1 60 0 k = S.1 60 0 k := fun k => by rw [q1, hs1]
  repeat (first | (refine hP _ _ _ _ _ _ ?_; show P _ _ _ _ _ _) | (refine hP _ _ _ _ _ _ (And.intro (hN _ _ _ rfl) ?_); show P _ _ (aR _ _ :: _) _ _ _))
  refine hP _ _ _ _ _ _ (Exists.intro (i + 1) (And.intro (And.intro (nI_1 i) (by show i + 1 < S1.2.2.2.1 1000; omega)) ?_))
  rw [x1]
  repeat (first | (refine hP _ _ _ _ _ _ ?_; show P _ _ _ _ _ _) | (refine hP _ _ _ _ _ _ (And.intro (hN _ _ _ rfl) ?_); show P _ _ (aR _ _ :: _) _ _ _))
  refine hP _ _ _ _ _ _ (Exists.intro (i + 2) (And.intro (And.intro (nI_add i 2) (by show i + 2 < S1.2.2.2.1 1000; omega)) ?_))
  rw [x1]
  repeat (first | (refine hP _ _ _ _ _ _ ?_; show P _ _ _ _ _ _) | (refine hP _ _ _ _ _ _ (And.intro (hN _ _ _ rfl) ?_); show P _ _ (aR _ _ :: _) _ _ _))
  refine hP _ _ _ _ _ _ (hm e _ (by omega) (fun S2 hT2 => ?_))
  repeat (first | (refine hP _ _ _ _ _ _ ?_; show P _ _ _ _ _ _) | (refine hP _ _ _ _ _ _ (And.intro (hN _ _ _ rfl) ?_); show P _ _ (aR _ _ :: _) _ _ _))
  refine hP _ _ _ _ _ _ (And.intro (fun _ => ?_) (fun hc => absurd rfl hc))
  exact h S2 hT2
theorem lw_round {e : Nat} {P : PT} {K : KT} {xs : Nat → Int32} {L i fc fs : Nat} {S : St} (he : 300 ≤ e) (hP : ∀ pc L st S fc fs, F m_L_law (Call e) K P pc L st S fc fs → P pc L st S fc fs) (hxs : ∀ pc ll st S fc fs, ((∀ k, S.1 60 0 k = xs k) ∧ S.2.2.2.1 1000 = L → P pc ll st S fc fs) → P pc ll st S fc fs) (hS : (∀ k, S.1 60 0 k = xs k) ∧ S.2.2.2.1 1000 = L) (hi : i + 6 ≤ L) (hT : TTx S) (hfc : fc + 1000 ≤ 600000) (hfs : fs + 165 ≤ 7302250) (h : ∀ S2, TTx S2 → P 1022 (lwL i) [] S2 (fc + 0) (fs + 0)) : P 396 (lwL i) [] S fc fs := by
  have hN : True := trivial
  obtain ⟨hs1, hs2⟩ := hS
  unfold lwL at h ⊢
  repeat (first | (refine hP _ _ _ _ _ _ ?_; show P _ _ _ _ _ _) | (refine hP _ _ _ _ _ _ (And.intro (hN _ _ _ rfl) ?_); show P _ _ (aR _ _ :: _) _ _ _))
  refine hP _ _ _ _ _ _ (op_round e S _ (by omega) hT (fun S1 x ok _ hm => ?_))
  obtain ⟨v, rfl⟩ := ok
  show P _ _ _ _ _ _
  refine hxs _ _ _ _ _ _ (fun q1 => ?_)
  obtain ⟨q1, q2⟩ := q1
  have x1 : ∀ k, S1.1 60 0 k = S.1 60 0 k := fun k => by rw [q1, hs1]
  repeat (first | (refine hP _ _ _ _ _ _ ?_; show P _ _ _ _ _ _) | (refine hP _ _ _ _ _ _ (And.intro (hN _ _ _ rfl) ?_); show P _ _ (aR _ _ :: _) _ _ _))
  refine hP _ _ _ _ _ _ (hm e _ (by omega) (fun S2 hT2 => ?_))
  repeat (first | (refine hP _ _ _ _ _ _ ?_; show P _ _ _ _ _ _) | (refine hP _ _ _ _ _ _ (And.intro (hN _ _ _ rfl) ?_); show P _ _ (aR _ _ :: _) _ _ _))
  refine hP _ _ _ _ _ _ (And.intro (fun _ => ?_) (fun hc => absurd rfl hc))
  exact h S2 hT2
theorem lw_night {e : Nat} {P : PT} {K : KT} {xs : Nat → Int32} {L i fc fs : Nat} {S : St} (he : 300 ≤ e) (hP : ∀ pc L st S fc fs, F m_L_law (Call e) K P pc L st S fc fs → P pc L st S fc fs) (hxs : ∀ pc ll st S fc fs, ((∀ k, S.1 60 0 k = xs k) ∧ S.2.2.2.1 1000 = L → P pc ll st S fc fs) → P pc ll st S fc fs) (hS : (∀ k, S.1 60 0 k = xs k) ∧ S.2.2.2.1 1000 = L) (hi : i + 6 ≤ L) (hT : TTx S) (hfc : fc + 1000 ≤ 600000) (hfs : fs + 165 ≤ 7302250) (h : ∀ S2, TTx S2 → P 1022 (lwL i) [] S2 (fc + 0) (fs + 0)) : P 409 (lwL i) [] S fc fs := by
  have hN : True := trivial
  obtain ⟨hs1, hs2⟩ := hS
  unfold lwL at h ⊢
  repeat (first | (refine hP _ _ _ _ _ _ ?_; show P _ _ _ _ _ _) | (refine hP _ _ _ _ _ _ (And.intro (hN _ _ _ rfl) ?_); show P _ _ (aR _ _ :: _) _ _ _))
  refine hP _ _ _ _ _ _ (op_night e S _ (by omega) hT (fun S1 x ok _ hm => ?_))
  obtain ⟨v, rfl⟩ := ok
  show P _ _ _ _ _ _
  refine hxs _ _ _ _ _ _ (fun q1 => ?_)
  obtain ⟨q1, q2⟩ := q1
  have x1 : ∀ k, S1.1 60 0 k = S.1 60 0 k := fun k => by rw [q1, hs1]
  repeat (first | (refine hP _ _ _ _ _ _ ?_; show P _ _ _ _ _ _) | (refine hP _ _ _ _ _ _ (And.intro (hN _ _ _ rfl) ?_); show P _ _ (aR _ _ :: _) _ _ _))
  refine hP _ _ _ _ _ _ (hm e _ (by omega) (fun S2 hT2 => ?_))
  repeat (first | (refine hP _ _ _ _ _ _ ?_; show P _ _ _ _ _ _) | (refine hP _ _ _ _ _ _ (And.intro (hN _ _ _ rfl) ?_); show P _ _ (aR _ _ :: _) _ _ _))
  refine hP _ _ _ _ _ _ (And.intro (fun _ => ?_) (fun hc => absurd rfl hc))
  exact h S2 hT2
theorem lw_strike {e : Nat} {P : PT} {K : KT} {xs : Nat → Int32} {L i fc fs : Nat} {S : St} (he : 300 ≤ e) (hP : ∀ pc L st S fc fs, F m_L_law (Call e) K P pc L st S fc fs → P pc L st S fc fs) (hxs : ∀ pc ll st S fc fs, ((∀ k, S.1 60 0 k = xs k) ∧ S.2.2.2.1 1000 = L → P pc ll st S fc fs) → P pc ll st S fc fs) (hS : (∀ k, S.1 60 0 k = xs k) ∧ S.2.2.2.1 1000 = L) (hi : i + 6 ≤ L) (hT : TTx S) (hfc : fc + 1000 ≤ 600000) (hfs : fs + 165 ≤ 7302250) (h : ∀ S2, TTx S2 → P 1022 (lwL i) [] S2 (fc + 0) (fs + 0)) : P 422 (lwL i) [] S fc fs := by
  have hN : True := trivial
  obtain ⟨hs1, hs2⟩ := hS
  unfold lwL at h ⊢
  repeat (first | (refine hP _ _ _ _ _ _ ?_; show P _ _ _ _ _ _) | (refine hP _ _ _ _ _ _ (And.intro (hN _ _ _ rfl) ?_); show P _ _ (aR _ _ :: _) _ _ _))
  refine hP _ _ _ _ _ _ (Exists.intro (i + 1) (And.intro (And.intro (nI_1 i) (by show i + 1 < S.2.2.2.1 1000; omega)) ?_))
  repeat (first | (refine hP _ _ _ _ _ _ ?_; show P _ _ _ _ _ _) | (refine hP _ _ _ _ _ _ (And.intro (hN _ _ _ rfl) ?_); show P _ _ (aR _ _ :: _) _ _ _))
  refine hP _ _ _ _ _ _ (op_strike (S.1 60 0 (i + 1)) e S _ (by omega) hT (fun S1 x ok _ hm => ?_))
  obtain ⟨v, rfl⟩ := ok
  show P _ _ _ _ _ _
  refine hxs _ _ _ _ _ _ (fun q1 => ?_)
  obtain ⟨q1, q2⟩ := q1
  have x1 : ∀ k, S1.1 60 0 k = S.1 60 0 k := fun k => by rw [q1, hs1]
  repeat (first | (refine hP _ _ _ _ _ _ ?_; show P _ _ _ _ _ _) | (refine hP _ _ _ _ _ _ (And.intro (hN _ _ _ rfl) ?_); show P _ _ (aR _ _ :: _) _ _ _))
  refine hP _ _ _ _ _ _ (Exists.intro (i + 1) (And.intro (And.intro (nI_1 i) (by show i + 1 < S1.2.2.2.1 1000; omega)) ?_))
  rw [x1]
  repeat (first | (refine hP _ _ _ _ _ _ ?_; show P _ _ _ _ _ _) | (refine hP _ _ _ _ _ _ (And.intro (hN _ _ _ rfl) ?_); show P _ _ (aR _ _ :: _) _ _ _))
  refine hP _ _ _ _ _ _ (hm e _ (by omega) (fun S2 hT2 => ?_))
  repeat (first | (refine hP _ _ _ _ _ _ ?_; show P _ _ _ _ _ _) | (refine hP _ _ _ _ _ _ (And.intro (hN _ _ _ rfl) ?_); show P _ _ (aR _ _ :: _) _ _ _))
  refine hP _ _ _ _ _ _ (And.intro (fun _ => ?_) (fun hc => absurd rfl hc))
  exact h S2 hT2
theorem lw_run {e : Nat} {P : PT} {K : KT} {xs : Nat → Int32} {L i fc fs : Nat} {S : St} (he : 300 ≤ e) (hP : ∀ pc L st S fc fs, F m_L_law (Call e) K P pc L st S fc fs → P pc L st S fc fs) (hxs : ∀ pc ll st S fc fs, ((∀ k, S.1 60 0 k = xs k) ∧ S.2.2.2.1 1000 = L → P pc ll st S fc fs) → P pc ll st S fc fs) (hS : (∀ k, S.1 60 0 k = xs k) ∧ S.2.2.2.1 1000 = L) (hi : i + 6 ≤ L) (hT : TTx S) (hfc : fc + 1000 ≤ 600000) (hfs : fs + 165 ≤ 7302250) (h : ∀ S2, TTx S2 → P 1022 (lwL i) [] S2 (fc + 0) (fs + 0)) : P 445 (lwL i) [] S fc fs := by
  have hN : True := trivial
  obtain ⟨hs1, hs2⟩ := hS
  unfold lwL at h ⊢
  repeat (first | (refine hP _ _ _ _ _ _ ?_; show P _ _ _ _ _ _) | (refine hP _ _ _ _ _ _ (And.intro (hN _ _ _ rfl) ?_); show P _ _ (aR _ _ :: _) _ _ _))
  refine hP _ _ _ _ _ _ (Exists.intro (i + 1) (And.intro (And.intro (nI_1 i) (by show i + 1 < S.2.2.2.1 1000; omega)) ?_))
  repeat (first | (refine hP _ _ _ _ _ _ ?_; show P _ _ _ _ _ _) | (refine hP _ _ _ _ _ _ (And.intro (hN _ _ _ rfl) ?_); show P _ _ (aR _ _ :: _) _ _ _))
  refine hP _ _ _ _ _ _ (Exists.intro (i + 2) (And.intro (And.intro (nI_add i 2) (by show i + 2 < S.2.2.2.1 1000; omega)) ?_))
  repeat (first | (refine hP _ _ _ _ _ _ ?_; show P _ _ _ _ _ _) | (refine hP _ _ _ _ _ _ (And.intro (hN _ _ _ rfl) ?_); show P _ _ (aR _ _ :: _) _ _ _))
  refine hP _ _ _ _ _ _ (Exists.intro (i + 3) (And.intro (And.intro (nI_add i 3) (by show i + 3 < S.2.2.2.1 1000; omega)) ?_))
  repeat (first | (refine hP _ _ _ _ _ _ ?_; show P _ _ _ _ _ _) | (refine hP _ _ _ _ _ _ (And.intro (hN _ _ _ rfl) ?_); show P _ _ (aR _ _ :: _) _ _ _))
  refine hP _ _ _ _ _ _ (Exists.intro (i + 4) (And.intro (And.intro (nI_add i 4) (by show i + 4 < S.2.2.2.1 1000; omega)) ?_))
  repeat (first | (refine hP _ _ _ _ _ _ ?_; show P _ _ _ _ _ _) | (refine hP _ _ _ _ _ _ (And.intro (hN _ _ _ rfl) ?_); show P _ _ (aR _ _ :: _) _ _ _))
  refine hP _ _ _ _ _ _ (op_run (S.1 60 0 (i + 1)) (S.1 60 0 (i + 2)) (S.1 60 0 (i + 3)) (S.1 60 0 (i + 4)) e S _ (by omega) hT (fun S1 x ok _ hm => ?_))
  obtain ⟨v, rfl⟩ := ok
  show P _ _ _ _ _ _
  refine hxs _ _ _ _ _ _ (fun q1 => ?_)
  obtain ⟨q1, q2⟩ := q1
  have x1 : ∀ k, S1.1 60 0 k = S.1 60 0 k := fun k => by rw [q1, hs1]
  repeat (first | (refine hP _ _ _ _ _ _ ?_; show P _ _ _ _ _ _) | (refine hP _ _ _ _ _ _ (And.intro (hN _ _ _ rfl) ?_); show P _ _ (aR _ _ :: _) _ _ _))
  refine hP _ _ _ _ _ _ (Exists.intro (i + 1) (And.intro (And.intro (nI_1 i) (by show i + 1 < S1.2.2.2.1 1000; omega)) ?_))
  rw [x1]
  repeat (first | (refine hP _ _ _ _ _ _ ?_; show P _ _ _ _ _ _) | (refine hP _ _ _ _ _ _ (And.intro (hN _ _ _ rfl) ?_); show P _ _ (aR _ _ :: _) _ _ _))
  refine hP _ _ _ _ _ _ (Exists.intro (i + 2) (And.intro (And.intro (nI_add i 2) (by show i + 2 < S1.2.2.2.1 1000; omega)) ?_))
  rw [x1]
  repeat (first | (refine hP _ _ _ _ _ _ ?_; show P _ _ _ _ _ _) | (refine hP _ _ _ _ _ _ (And.intro (hN _ _ _ rfl) ?_); show P _ _ (aR _ _ :: _) _ _ _))
  refine hP _ _ _ _ _ _ (Exists.intro (i + 3) (And.intro (And.intro (nI_add i 3) (by show i + 3 < S1.2.2.2.1 1000; omega)) ?_))
  rw [x1]
  repeat (first | (refine hP _ _ _ _ _ _ ?_; show P _ _ _ _ _ _) | (refine hP _ _ _ _ _ _ (And.intro (hN _ _ _ rfl) ?_); show P _ _ (aR _ _ :: _) _ _ _))
  refine hP _ _ _ _ _ _ (Exists.intro (i + 4) (And.intro (And.intro (nI_add i 4) (by show i + 4 < S1.2.2.2.1 1000; omega)) ?_))
  rw [x1]
  repeat (first | (refine hP _ _ _ _ _ _ ?_; show P _ _ _ _ _ _) | (refine hP _ _ _ _ _ _ (And.intro (hN _ _ _ rfl) ?_); show P _ _ (aR _ _ :: _) _ _ _))
  refine hP _ _ _ _ _ _ (hm e _ (by omega) (fun S2 hT2 => ?_))
  repeat (first | (refine hP _ _ _ _ _ _ ?_; show P _ _ _ _ _ _) | (refine hP _ _ _ _ _ _ (And.intro (hN _ _ _ rfl) ?_); show P _ _ (aR _ _ :: _) _ _ _))
  refine hP _ _ _ _ _ _ (And.intro (fun _ => ?_) (fun hc => absurd rfl hc))
  exact h S2 hT2
theorem lw_best {e : Nat} {P : PT} {K : KT} {xs : Nat → Int32} {L i fc fs : Nat} {S : St} (he : 300 ≤ e) (hP : ∀ pc L st S fc fs, F m_L_law (Call e) K P pc L st S fc fs → P pc L st S fc fs) (hxs : ∀ pc ll st S fc fs, ((∀ k, S.1 60 0 k = xs k) ∧ S.2.2.2.1 1000 = L → P pc ll st S fc fs) → P pc ll st S fc fs) (hS : (∀ k, S.1 60 0 k = xs k) ∧ S.2.2.2.1 1000 = L) (hi : i + 6 ≤ L) (hT : TTx S) (hfc : fc + 1000 ≤ 600000) (hfs : fs + 165 ≤ 7302250) (h : ∀ S2, TTx S2 → P 1022 (lwL i) [] S2 (fc + 0) (fs + 0)) : P 498 (lwL i) [] S fc fs := by
  have hN : True := trivial
  obtain ⟨hs1, hs2⟩ := hS
  unfold lwL at h ⊢
  repeat (first | (refine hP _ _ _ _ _ _ ?_; show P _ _ _ _ _ _) | (refine hP _ _ _ _ _ _ (And.intro (hN _ _ _ rfl) ?_); show P _ _ (aR _ _ :: _) _ _ _))
  refine hP _ _ _ _ _ _ (Exists.intro (i + 1) (And.intro (And.intro (nI_1 i) (by show i + 1 < S.2.2.2.1 1000; omega)) ?_))
  repeat (first | (refine hP _ _ _ _ _ _ ?_; show P _ _ _ _ _ _) | (refine hP _ _ _ _ _ _ (And.intro (hN _ _ _ rfl) ?_); show P _ _ (aR _ _ :: _) _ _ _))
  refine hP _ _ _ _ _ _ (op_best (S.1 60 0 (i + 1)) e S _ (by omega) hT (fun S1 x ok _ hm => ?_))
  obtain ⟨v, rfl⟩ := ok
  show P _ _ _ _ _ _
  refine hxs _ _ _ _ _ _ (fun q1 => ?_)
  obtain ⟨q1, q2⟩ := q1
  have x1 : ∀ k, S1.1 60 0 k = S.1 60 0 k := fun k => by rw [q1, hs1]
  repeat (first | (refine hP _ _ _ _ _ _ ?_; show P _ _ _ _ _ _) | (refine hP _ _ _ _ _ _ (And.intro (hN _ _ _ rfl) ?_); show P _ _ (aR _ _ :: _) _ _ _))
  refine hP _ _ _ _ _ _ (Exists.intro (i + 1) (And.intro (And.intro (nI_1 i) (by show i + 1 < S1.2.2.2.1 1000; omega)) ?_))
  rw [x1]
  repeat (first | (refine hP _ _ _ _ _ _ ?_; show P _ _ _ _ _ _) | (refine hP _ _ _ _ _ _ (And.intro (hN _ _ _ rfl) ?_); show P _ _ (aR _ _ :: _) _ _ _))
  refine hP _ _ _ _ _ _ (hm e _ (by omega) (fun S2 hT2 => ?_))
  repeat (first | (refine hP _ _ _ _ _ _ ?_; show P _ _ _ _ _ _) | (refine hP _ _ _ _ _ _ (And.intro (hN _ _ _ rfl) ?_); show P _ _ (aR _ _ :: _) _ _ _))
  refine hP _ _ _ _ _ _ (And.intro (fun _ => ?_) (fun hc => absurd rfl hc))
  exact h S2 hT2
theorem lw_share {e : Nat} {P : PT} {K : KT} {xs : Nat → Int32} {L i fc fs : Nat} {S : St} (he : 300 ≤ e) (hP : ∀ pc L st S fc fs, F m_L_law (Call e) K P pc L st S fc fs → P pc L st S fc fs) (hxs : ∀ pc ll st S fc fs, ((∀ k, S.1 60 0 k = xs k) ∧ S.2.2.2.1 1000 = L → P pc ll st S fc fs) → P pc ll st S fc fs) (hS : (∀ k, S.1 60 0 k = xs k) ∧ S.2.2.2.1 1000 = L) (hi : i + 6 ≤ L) (hT : TTx S) (hfc : fc + 1000 ≤ 600000) (hfs : fs + 165 ≤ 7302250) (h : ∀ S2, TTx S2 → P 1022 (lwL i) [] S2 (fc + 0) (fs + 0)) : P 521 (lwL i) [] S fc fs := by
  have hN : True := trivial
  obtain ⟨hs1, hs2⟩ := hS
  unfold lwL at h ⊢
  repeat (first | (refine hP _ _ _ _ _ _ ?_; show P _ _ _ _ _ _) | (refine hP _ _ _ _ _ _ (And.intro (hN _ _ _ rfl) ?_); show P _ _ (aR _ _ :: _) _ _ _))
  refine hP _ _ _ _ _ _ (Exists.intro (i + 1) (And.intro (And.intro (nI_1 i) (by show i + 1 < S.2.2.2.1 1000; omega)) ?_))
  repeat (first | (refine hP _ _ _ _ _ _ ?_; show P _ _ _ _ _ _) | (refine hP _ _ _ _ _ _ (And.intro (hN _ _ _ rfl) ?_); show P _ _ (aR _ _ :: _) _ _ _))
  refine hP _ _ _ _ _ _ (Exists.intro (i + 2) (And.intro (And.intro (nI_add i 2) (by show i + 2 < S.2.2.2.1 1000; omega)) ?_))
  repeat (first | (refine hP _ _ _ _ _ _ ?_; show P _ _ _ _ _ _) | (refine hP _ _ _ _ _ _ (And.intro (hN _ _ _ rfl) ?_); show P _ _ (aR _ _ :: _) _ _ _))
  refine hP _ _ _ _ _ _ (op_share (S.1 60 0 (i + 1)) (S.1 60 0 (i + 2)) e S _ (by omega) hT (fun S1 x ok _ hm => ?_))
  obtain ⟨v, rfl⟩ := ok
  show P _ _ _ _ _ _
  refine hxs _ _ _ _ _ _ (fun q1 => ?_)
  obtain ⟨q1, q2⟩ := q1
  have x1 : ∀ k, S1.1 60 0 k = S.1 60 0 k := fun k => by rw [q1, hs1]
  repeat (first | (refine hP _ _ _ _ _ _ ?_; show P _ _ _ _ _ _) | (refine hP _ _ _ _ _ _ (And.intro (hN _ _ _ rfl) ?_); show P _ _ (aR _ _ :: _) _ _ _))
  refine hP _ _ _ _ _ _ (Exists.intro (i + 1) (And.intro (And.intro (nI_1 i) (by show i + 1 < S1.2.2.2.1 1000; omega)) ?_))
  rw [x1]
  repeat (first | (refine hP _ _ _ _ _ _ ?_; show P _ _ _ _ _ _) | (refine hP _ _ _ _ _ _ (And.intro (hN _ _ _ rfl) ?_); show P _ _ (aR _ _ :: _) _ _ _))
  refine hP _ _ _ _ _ _ (Exists.intro (i + 2) (And.intro (And.intro (nI_add i 2) (by show i + 2 < S1.2.2.2.1 1000; omega)) ?_))
  rw [x1]
  repeat (first | (refine hP _ _ _ _ _ _ ?_; show P _ _ _ _ _ _) | (refine hP _ _ _ _ _ _ (And.intro (hN _ _ _ rfl) ?_); show P _ _ (aR _ _ :: _) _ _ _))
  refine hP _ _ _ _ _ _ (hm e _ (by omega) (fun S2 hT2 => ?_))
  repeat (first | (refine hP _ _ _ _ _ _ ?_; show P _ _ _ _ _ _) | (refine hP _ _ _ _ _ _ (And.intro (hN _ _ _ rfl) ?_); show P _ _ (aR _ _ :: _) _ _ _))
  refine hP _ _ _ _ _ _ (And.intro (fun _ => ?_) (fun hc => absurd ((lg_cmp_eq v v).mpr rfl) hc))
  exact h S2 hT2
theorem lw_tells {e : Nat} {P : PT} {K : KT} {xs : Nat → Int32} {L i fc fs : Nat} {S : St} (he : 300 ≤ e) (hP : ∀ pc L st S fc fs, F m_L_law (Call e) K P pc L st S fc fs → P pc L st S fc fs) (hxs : ∀ pc ll st S fc fs, ((∀ k, S.1 60 0 k = xs k) ∧ S.2.2.2.1 1000 = L → P pc ll st S fc fs) → P pc ll st S fc fs) (hS : (∀ k, S.1 60 0 k = xs k) ∧ S.2.2.2.1 1000 = L) (hi : i + 6 ≤ L) (hT : TTx S) (hfc : fc + 1000 ≤ 600000) (hfs : fs + 165 ≤ 7302250) (h : ∀ S2, TTx S2 → P 1022 (lwL i) [] S2 (fc + 0) (fs + 0)) : P 555 (lwL i) [] S fc fs := by
  have hN : True := trivial
  obtain ⟨hs1, hs2⟩ := hS
  unfold lwL at h ⊢
  repeat (first | (refine hP _ _ _ _ _ _ ?_; show P _ _ _ _ _ _) | (refine hP _ _ _ _ _ _ (And.intro (hN _ _ _ rfl) ?_); show P _ _ (aR _ _ :: _) _ _ _))
  refine hP _ _ _ _ _ _ (Exists.intro (i + 1) (And.intro (And.intro (nI_1 i) (by show i + 1 < S.2.2.2.1 1000; omega)) ?_))
  repeat (first | (refine hP _ _ _ _ _ _ ?_; show P _ _ _ _ _ _) | (refine hP _ _ _ _ _ _ (And.intro (hN _ _ _ rfl) ?_); show P _ _ (aR _ _ :: _) _ _ _))
  refine hP _ _ _ _ _ _ (Exists.intro (i + 2) (And.intro (And.intro (nI_add i 2) (by show i + 2 < S.2.2.2.1 1000; omega)) ?_))
  repeat (first | (refine hP _ _ _ _ _ _ ?_; show P _ _ _ _ _ _) | (refine hP _ _ _ _ _ _ (And.intro (hN _ _ _ rfl) ?_); show P _ _ (aR _ _ :: _) _ _ _))
  refine hP _ _ _ _ _ _ (Exists.intro (i + 3) (And.intro (And.intro (nI_add i 3) (by show i + 3 < S.2.2.2.1 1000; omega)) ?_))
  repeat (first | (refine hP _ _ _ _ _ _ ?_; show P _ _ _ _ _ _) | (refine hP _ _ _ _ _ _ (And.intro (hN _ _ _ rfl) ?_); show P _ _ (aR _ _ :: _) _ _ _))
  refine hP _ _ _ _ _ _ (Exists.intro (i + 4) (And.intro (And.intro (nI_add i 4) (by show i + 4 < S.2.2.2.1 1000; omega)) ?_))
  repeat (first | (refine hP _ _ _ _ _ _ ?_; show P _ _ _ _ _ _) | (refine hP _ _ _ _ _ _ (And.intro (hN _ _ _ rfl) ?_); show P _ _ (aR _ _ :: _) _ _ _))
  refine hP _ _ _ _ _ _ (op_tells (S.1 60 0 (i + 1)) (S.1 60 0 (i + 2)) (S.1 60 0 (i + 3)) (S.1 60 0 (i + 4)) e S _ (by omega) hT (fun S1 x ok _ hm => ?_))
  obtain ⟨v, rfl⟩ := ok
  show P _ _ _ _ _ _
  refine hxs _ _ _ _ _ _ (fun q1 => ?_)
  obtain ⟨q1, q2⟩ := q1
  have x1 : ∀ k, S1.1 60 0 k = S.1 60 0 k := fun k => by rw [q1, hs1]
  repeat (first | (refine hP _ _ _ _ _ _ ?_; show P _ _ _ _ _ _) | (refine hP _ _ _ _ _ _ (And.intro (hN _ _ _ rfl) ?_); show P _ _ (aR _ _ :: _) _ _ _))
  refine hP _ _ _ _ _ _ (Exists.intro (i + 1) (And.intro (And.intro (nI_1 i) (by show i + 1 < S1.2.2.2.1 1000; omega)) ?_))
  rw [x1]
  repeat (first | (refine hP _ _ _ _ _ _ ?_; show P _ _ _ _ _ _) | (refine hP _ _ _ _ _ _ (And.intro (hN _ _ _ rfl) ?_); show P _ _ (aR _ _ :: _) _ _ _))
  refine hP _ _ _ _ _ _ (Exists.intro (i + 2) (And.intro (And.intro (nI_add i 2) (by show i + 2 < S1.2.2.2.1 1000; omega)) ?_))
  rw [x1]
  repeat (first | (refine hP _ _ _ _ _ _ ?_; show P _ _ _ _ _ _) | (refine hP _ _ _ _ _ _ (And.intro (hN _ _ _ rfl) ?_); show P _ _ (aR _ _ :: _) _ _ _))
  refine hP _ _ _ _ _ _ (Exists.intro (i + 3) (And.intro (And.intro (nI_add i 3) (by show i + 3 < S1.2.2.2.1 1000; omega)) ?_))
  rw [x1]
  repeat (first | (refine hP _ _ _ _ _ _ ?_; show P _ _ _ _ _ _) | (refine hP _ _ _ _ _ _ (And.intro (hN _ _ _ rfl) ?_); show P _ _ (aR _ _ :: _) _ _ _))
  refine hP _ _ _ _ _ _ (Exists.intro (i + 4) (And.intro (And.intro (nI_add i 4) (by show i + 4 < S1.2.2.2.1 1000; omega)) ?_))
  rw [x1]
  repeat (first | (refine hP _ _ _ _ _ _ ?_; show P _ _ _ _ _ _) | (refine hP _ _ _ _ _ _ (And.intro (hN _ _ _ rfl) ?_); show P _ _ (aR _ _ :: _) _ _ _))
  refine hP _ _ _ _ _ _ (hm e _ (by omega) (fun S2 hT2 => ?_))
  repeat (first | (refine hP _ _ _ _ _ _ ?_; show P _ _ _ _ _ _) | (refine hP _ _ _ _ _ _ (And.intro (hN _ _ _ rfl) ?_); show P _ _ (aR _ _ :: _) _ _ _))
  refine hP _ _ _ _ _ _ (And.intro (fun _ => ?_) (fun hc => absurd rfl hc))
  exact h S2 hT2
theorem lw_film {e : Nat} {P : PT} {K : KT} {xs : Nat → Int32} {L i fc fs : Nat} {S : St} (he : 300 ≤ e) (hP : ∀ pc L st S fc fs, F m_L_law (Call e) K P pc L st S fc fs → P pc L st S fc fs) (hxs : ∀ pc ll st S fc fs, ((∀ k, S.1 60 0 k = xs k) ∧ S.2.2.2.1 1000 = L → P pc ll st S fc fs) → P pc ll st S fc fs) (hS : (∀ k, S.1 60 0 k = xs k) ∧ S.2.2.2.1 1000 = L) (hi : i + 6 ≤ L) (hT : TTx S) (hfc : fc + 1000 ≤ 600000) (hfs : fs + 165 ≤ 7302250) (h : ∀ S2, TTx S2 → P 1022 (lwL i) [] S2 (fc + 0) (fs + 0)) : P 608 (lwL i) [] S fc fs := by
  have hN : True := trivial
  obtain ⟨hs1, hs2⟩ := hS
  unfold lwL at h ⊢
  repeat (first | (refine hP _ _ _ _ _ _ ?_; show P _ _ _ _ _ _) | (refine hP _ _ _ _ _ _ (And.intro (hN _ _ _ rfl) ?_); show P _ _ (aR _ _ :: _) _ _ _))
  refine hP _ _ _ _ _ _ (Exists.intro (i + 1) (And.intro (And.intro (nI_1 i) (by show i + 1 < S.2.2.2.1 1000; omega)) ?_))
  repeat (first | (refine hP _ _ _ _ _ _ ?_; show P _ _ _ _ _ _) | (refine hP _ _ _ _ _ _ (And.intro (hN _ _ _ rfl) ?_); show P _ _ (aR _ _ :: _) _ _ _))
  refine hP _ _ _ _ _ _ (Exists.intro (i + 2) (And.intro (And.intro (nI_add i 2) (by show i + 2 < S.2.2.2.1 1000; omega)) ?_))
  repeat (first | (refine hP _ _ _ _ _ _ ?_; show P _ _ _ _ _ _) | (refine hP _ _ _ _ _ _ (And.intro (hN _ _ _ rfl) ?_); show P _ _ (aR _ _ :: _) _ _ _))
  refine hP _ _ _ _ _ _ (Exists.intro (i + 3) (And.intro (And.intro (nI_add i 3) (by show i + 3 < S.2.2.2.1 1000; omega)) ?_))
  repeat (first | (refine hP _ _ _ _ _ _ ?_; show P _ _ _ _ _ _) | (refine hP _ _ _ _ _ _ (And.intro (hN _ _ _ rfl) ?_); show P _ _ (aR _ _ :: _) _ _ _))
  refine hP _ _ _ _ _ _ (Exists.intro (i + 4) (And.intro (And.intro (nI_add i 4) (by show i + 4 < S.2.2.2.1 1000; omega)) ?_))
  repeat (first | (refine hP _ _ _ _ _ _ ?_; show P _ _ _ _ _ _) | (refine hP _ _ _ _ _ _ (And.intro (hN _ _ _ rfl) ?_); show P _ _ (aR _ _ :: _) _ _ _))
  refine hP _ _ _ _ _ _ (op_film (S.1 60 0 (i + 1)) (S.1 60 0 (i + 2)) (S.1 60 0 (i + 3)) (S.1 60 0 (i + 4)) e S _ (by omega) hT (fun S1 x ok _ hm => ?_))
  obtain ⟨v, rfl⟩ := ok
  show P _ _ _ _ _ _
  refine hxs _ _ _ _ _ _ (fun q1 => ?_)
  obtain ⟨q1, q2⟩ := q1
  have x1 : ∀ k, S1.1 60 0 k = S.1 60 0 k := fun k => by rw [q1, hs1]
  repeat (first | (refine hP _ _ _ _ _ _ ?_; show P _ _ _ _ _ _) | (refine hP _ _ _ _ _ _ (And.intro (hN _ _ _ rfl) ?_); show P _ _ (aR _ _ :: _) _ _ _))
  refine hP _ _ _ _ _ _ (Exists.intro (i + 1) (And.intro (And.intro (nI_1 i) (by show i + 1 < S1.2.2.2.1 1000; omega)) ?_))
  rw [x1]
  repeat (first | (refine hP _ _ _ _ _ _ ?_; show P _ _ _ _ _ _) | (refine hP _ _ _ _ _ _ (And.intro (hN _ _ _ rfl) ?_); show P _ _ (aR _ _ :: _) _ _ _))
  refine hP _ _ _ _ _ _ (Exists.intro (i + 2) (And.intro (And.intro (nI_add i 2) (by show i + 2 < S1.2.2.2.1 1000; omega)) ?_))
  rw [x1]
  repeat (first | (refine hP _ _ _ _ _ _ ?_; show P _ _ _ _ _ _) | (refine hP _ _ _ _ _ _ (And.intro (hN _ _ _ rfl) ?_); show P _ _ (aR _ _ :: _) _ _ _))
  refine hP _ _ _ _ _ _ (Exists.intro (i + 3) (And.intro (And.intro (nI_add i 3) (by show i + 3 < S1.2.2.2.1 1000; omega)) ?_))
  rw [x1]
  repeat (first | (refine hP _ _ _ _ _ _ ?_; show P _ _ _ _ _ _) | (refine hP _ _ _ _ _ _ (And.intro (hN _ _ _ rfl) ?_); show P _ _ (aR _ _ :: _) _ _ _))
  refine hP _ _ _ _ _ _ (Exists.intro (i + 4) (And.intro (And.intro (nI_add i 4) (by show i + 4 < S1.2.2.2.1 1000; omega)) ?_))
  rw [x1]
  repeat (first | (refine hP _ _ _ _ _ _ ?_; show P _ _ _ _ _ _) | (refine hP _ _ _ _ _ _ (And.intro (hN _ _ _ rfl) ?_); show P _ _ (aR _ _ :: _) _ _ _))
  refine hP _ _ _ _ _ _ (hm e _ (by omega) (fun S2 hT2 => ?_))
  repeat (first | (refine hP _ _ _ _ _ _ ?_; show P _ _ _ _ _ _) | (refine hP _ _ _ _ _ _ (And.intro (hN _ _ _ rfl) ?_); show P _ _ (aR _ _ :: _) _ _ _))
  refine hP _ _ _ _ _ _ (And.intro (fun _ => ?_) (fun hc => absurd rfl hc))
  exact h S2 hT2
theorem lw_drawn {e : Nat} {P : PT} {K : KT} {xs : Nat → Int32} {L i fc fs : Nat} {S : St} (he : 300 ≤ e) (hP : ∀ pc L st S fc fs, F m_L_law (Call e) K P pc L st S fc fs → P pc L st S fc fs) (hxs : ∀ pc ll st S fc fs, ((∀ k, S.1 60 0 k = xs k) ∧ S.2.2.2.1 1000 = L → P pc ll st S fc fs) → P pc ll st S fc fs) (hS : (∀ k, S.1 60 0 k = xs k) ∧ S.2.2.2.1 1000 = L) (hi : i + 6 ≤ L) (hT : TTx S) (hfc : fc + 1000 ≤ 600000) (hfs : fs + 165 ≤ 7302250) (h : ∀ S2, TTx S2 → P 1022 (lwL i) [] S2 (fc + 0) (fs + 0)) : P 661 (lwL i) [] S fc fs := by
  have hN : True := trivial
  obtain ⟨hs1, hs2⟩ := hS
  unfold lwL at h ⊢
  repeat (first | (refine hP _ _ _ _ _ _ ?_; show P _ _ _ _ _ _) | (refine hP _ _ _ _ _ _ (And.intro (hN _ _ _ rfl) ?_); show P _ _ (aR _ _ :: _) _ _ _))
  refine hP _ _ _ _ _ _ (Exists.intro (i + 1) (And.intro (And.intro (nI_1 i) (by show i + 1 < S.2.2.2.1 1000; omega)) ?_))
  repeat (first | (refine hP _ _ _ _ _ _ ?_; show P _ _ _ _ _ _) | (refine hP _ _ _ _ _ _ (And.intro (hN _ _ _ rfl) ?_); show P _ _ (aR _ _ :: _) _ _ _))
  refine hP _ _ _ _ _ _ (op_drawn (S.1 60 0 (i + 1)) e S _ (by omega) hT (fun S1 x ok _ hm => ?_))
  obtain ⟨v, rfl⟩ := ok
  show P _ _ _ _ _ _
  refine hxs _ _ _ _ _ _ (fun q1 => ?_)
  obtain ⟨q1, q2⟩ := q1
  have x1 : ∀ k, S1.1 60 0 k = S.1 60 0 k := fun k => by rw [q1, hs1]
  repeat (first | (refine hP _ _ _ _ _ _ ?_; show P _ _ _ _ _ _) | (refine hP _ _ _ _ _ _ (And.intro (hN _ _ _ rfl) ?_); show P _ _ (aR _ _ :: _) _ _ _))
  refine hP _ _ _ _ _ _ (Exists.intro (i + 1) (And.intro (And.intro (nI_1 i) (by show i + 1 < S1.2.2.2.1 1000; omega)) ?_))
  rw [x1]
  repeat (first | (refine hP _ _ _ _ _ _ ?_; show P _ _ _ _ _ _) | (refine hP _ _ _ _ _ _ (And.intro (hN _ _ _ rfl) ?_); show P _ _ (aR _ _ :: _) _ _ _))
  refine hP _ _ _ _ _ _ (hm e _ (by omega) (fun S2 hT2 => ?_))
  repeat (first | (refine hP _ _ _ _ _ _ ?_; show P _ _ _ _ _ _) | (refine hP _ _ _ _ _ _ (And.intro (hN _ _ _ rfl) ?_); show P _ _ (aR _ _ :: _) _ _ _))
  refine hP _ _ _ _ _ _ (And.intro (fun _ => ?_) (fun hc => absurd rfl hc))
  exact h S2 hT2
theorem lw_chance {e : Nat} {P : PT} {K : KT} {xs : Nat → Int32} {L i fc fs : Nat} {S : St} (he : 300 ≤ e) (hP : ∀ pc L st S fc fs, F m_L_law (Call e) K P pc L st S fc fs → P pc L st S fc fs) (hxs : ∀ pc ll st S fc fs, ((∀ k, S.1 60 0 k = xs k) ∧ S.2.2.2.1 1000 = L → P pc ll st S fc fs) → P pc ll st S fc fs) (hS : (∀ k, S.1 60 0 k = xs k) ∧ S.2.2.2.1 1000 = L) (hi : i + 6 ≤ L) (hT : TTx S) (hfc : fc + 1000 ≤ 600000) (hfs : fs + 165 ≤ 7302250) (h : ∀ S2, TTx S2 → P 1022 (lwL i) [] S2 (fc + 0) (fs + 0)) : P 684 (lwL i) [] S fc fs := by
  have hN : True := trivial
  obtain ⟨hs1, hs2⟩ := hS
  unfold lwL at h ⊢
  repeat (first | (refine hP _ _ _ _ _ _ ?_; show P _ _ _ _ _ _) | (refine hP _ _ _ _ _ _ (And.intro (hN _ _ _ rfl) ?_); show P _ _ (aR _ _ :: _) _ _ _))
  refine hP _ _ _ _ _ _ (Exists.intro (i + 1) (And.intro (And.intro (nI_1 i) (by show i + 1 < S.2.2.2.1 1000; omega)) ?_))
  repeat (first | (refine hP _ _ _ _ _ _ ?_; show P _ _ _ _ _ _) | (refine hP _ _ _ _ _ _ (And.intro (hN _ _ _ rfl) ?_); show P _ _ (aR _ _ :: _) _ _ _))
  refine hP _ _ _ _ _ _ (Exists.intro (i + 2) (And.intro (And.intro (nI_add i 2) (by show i + 2 < S.2.2.2.1 1000; omega)) ?_))
  repeat (first | (refine hP _ _ _ _ _ _ ?_; show P _ _ _ _ _ _) | (refine hP _ _ _ _ _ _ (And.intro (hN _ _ _ rfl) ?_); show P _ _ (aR _ _ :: _) _ _ _))
  refine hP _ _ _ _ _ _ (Exists.intro (i + 3) (And.intro (And.intro (nI_add i 3) (by show i + 3 < S.2.2.2.1 1000; omega)) ?_))
  repeat (first | (refine hP _ _ _ _ _ _ ?_; show P _ _ _ _ _ _) | (refine hP _ _ _ _ _ _ (And.intro (hN _ _ _ rfl) ?_); show P _ _ (aR _ _ :: _) _ _ _))
  refine hP _ _ _ _ _ _ (Exists.intro (i + 4) (And.intro (And.intro (nI_add i 4) (by show i + 4 < S.2.2.2.1 1000; omega)) ?_))
  repeat (first | (refine hP _ _ _ _ _ _ ?_; show P _ _ _ _ _ _) | (refine hP _ _ _ _ _ _ (And.intro (hN _ _ _ rfl) ?_); show P _ _ (aR _ _ :: _) _ _ _))
  refine hP _ _ _ _ _ _ (op_chance (S.1 60 0 (i + 1)) (S.1 60 0 (i + 2)) (S.1 60 0 (i + 3)) (S.1 60 0 (i + 4)) e S _ (by omega) hT (fun S1 x ok _ hm => ?_))
  obtain ⟨v, rfl⟩ := ok
  show P _ _ _ _ _ _
  refine hxs _ _ _ _ _ _ (fun q1 => ?_)
  obtain ⟨q1, q2⟩ := q1
  have x1 : ∀ k, S1.1 60 0 k = S.1 60 0 k := fun k => by rw [q1, hs1]
  repeat (first | (refine hP _ _ _ _ _ _ ?_; show P _ _ _ _ _ _) | (refine hP _ _ _ _ _ _ (And.intro (hN _ _ _ rfl) ?_); show P _ _ (aR _ _ :: _) _ _ _))
  refine hP _ _ _ _ _ _ (Exists.intro (i + 1) (And.intro (And.intro (nI_1 i) (by show i + 1 < S1.2.2.2.1 1000; omega)) ?_))
  rw [x1]
  repeat (first | (refine hP _ _ _ _ _ _ ?_; show P _ _ _ _ _ _) | (refine hP _ _ _ _ _ _ (And.intro (hN _ _ _ rfl) ?_); show P _ _ (aR _ _ :: _) _ _ _))
  refine hP _ _ _ _ _ _ (Exists.intro (i + 2) (And.intro (And.intro (nI_add i 2) (by show i + 2 < S1.2.2.2.1 1000; omega)) ?_))
  rw [x1]
  repeat (first | (refine hP _ _ _ _ _ _ ?_; show P _ _ _ _ _ _) | (refine hP _ _ _ _ _ _ (And.intro (hN _ _ _ rfl) ?_); show P _ _ (aR _ _ :: _) _ _ _))
  refine hP _ _ _ _ _ _ (Exists.intro (i + 3) (And.intro (And.intro (nI_add i 3) (by show i + 3 < S1.2.2.2.1 1000; omega)) ?_))
  rw [x1]
  repeat (first | (refine hP _ _ _ _ _ _ ?_; show P _ _ _ _ _ _) | (refine hP _ _ _ _ _ _ (And.intro (hN _ _ _ rfl) ?_); show P _ _ (aR _ _ :: _) _ _ _))
  refine hP _ _ _ _ _ _ (Exists.intro (i + 4) (And.intro (And.intro (nI_add i 4) (by show i + 4 < S1.2.2.2.1 1000; omega)) ?_))
  rw [x1]
  repeat (first | (refine hP _ _ _ _ _ _ ?_; show P _ _ _ _ _ _) | (refine hP _ _ _ _ _ _ (And.intro (hN _ _ _ rfl) ?_); show P _ _ (aR _ _ :: _) _ _ _))
  refine hP _ _ _ _ _ _ (hm e _ (by omega) (fun S2 hT2 => ?_))
  repeat (first | (refine hP _ _ _ _ _ _ ?_; show P _ _ _ _ _ _) | (refine hP _ _ _ _ _ _ (And.intro (hN _ _ _ rfl) ?_); show P _ _ (aR _ _ :: _) _ _ _))
  refine hP _ _ _ _ _ _ (And.intro (fun _ => ?_) (fun hc => absurd ((lg_cmp_eq v v).mpr rfl) hc))
  exact h S2 hT2
theorem lw_image {e : Nat} {P : PT} {K : KT} {xs : Nat → Int32} {L i fc fs : Nat} {S : St} (he : 300 ≤ e) (hP : ∀ pc L st S fc fs, F m_L_law (Call e) K P pc L st S fc fs → P pc L st S fc fs) (hxs : ∀ pc ll st S fc fs, ((∀ k, S.1 60 0 k = xs k) ∧ S.2.2.2.1 1000 = L → P pc ll st S fc fs) → P pc ll st S fc fs) (hS : (∀ k, S.1 60 0 k = xs k) ∧ S.2.2.2.1 1000 = L) (hi : i + 6 ≤ L) (hT : TTx S) (hfc : fc + 1000 ≤ 600000) (hfs : fs + 165 ≤ 7302250) (h : ∀ S2, TTx S2 → P 1022 (lwL i) [] S2 (fc + 0) (fs + 0)) : P 738 (lwL i) [] S fc fs := by
  have hN : True := trivial
  obtain ⟨hs1, hs2⟩ := hS
  unfold lwL at h ⊢
  repeat (first | (refine hP _ _ _ _ _ _ ?_; show P _ _ _ _ _ _) | (refine hP _ _ _ _ _ _ (And.intro (hN _ _ _ rfl) ?_); show P _ _ (aR _ _ :: _) _ _ _))
  refine hP _ _ _ _ _ _ (op_image e S _ (by omega) hT (fun S1 x ok _ hm => ?_))
  obtain ⟨v, rfl⟩ := ok
  show P _ _ _ _ _ _
  refine hxs _ _ _ _ _ _ (fun q1 => ?_)
  obtain ⟨q1, q2⟩ := q1
  have x1 : ∀ k, S1.1 60 0 k = S.1 60 0 k := fun k => by rw [q1, hs1]
  repeat (first | (refine hP _ _ _ _ _ _ ?_; show P _ _ _ _ _ _) | (refine hP _ _ _ _ _ _ (And.intro (hN _ _ _ rfl) ?_); show P _ _ (aR _ _ :: _) _ _ _))
  refine hP _ _ _ _ _ _ (hm e _ (by omega) (fun S2 hT2 => ?_))
  repeat (first | (refine hP _ _ _ _ _ _ ?_; show P _ _ _ _ _ _) | (refine hP _ _ _ _ _ _ (And.intro (hN _ _ _ rfl) ?_); show P _ _ (aR _ _ :: _) _ _ _))
  refine hP _ _ _ _ _ _ (And.intro (fun _ => ?_) (fun hc => absurd rfl hc))
  exact h S2 hT2
theorem lw_back {e : Nat} {P : PT} {K : KT} {xs : Nat → Int32} {L i fc fs : Nat} {S : St} (he : 300 ≤ e) (hP : ∀ pc L st S fc fs, F m_L_law (Call e) K P pc L st S fc fs → P pc L st S fc fs) (hxs : ∀ pc ll st S fc fs, ((∀ k, S.1 60 0 k = xs k) ∧ S.2.2.2.1 1000 = L → P pc ll st S fc fs) → P pc ll st S fc fs) (hS : (∀ k, S.1 60 0 k = xs k) ∧ S.2.2.2.1 1000 = L) (hi : i + 6 ≤ L) (hT : TTx S) (hfc : fc + 1000 ≤ 600000) (hfs : fs + 165 ≤ 7302250) (h : ∀ S2, TTx S2 → P 1022 (lwL i) [] S2 (fc + 0) (fs + 0)) : P 751 (lwL i) [] S fc fs := by
  have hN : True := trivial
  obtain ⟨hs1, hs2⟩ := hS
  unfold lwL at h ⊢
  repeat (first | (refine hP _ _ _ _ _ _ ?_; show P _ _ _ _ _ _) | (refine hP _ _ _ _ _ _ (And.intro (hN _ _ _ rfl) ?_); show P _ _ (aR _ _ :: _) _ _ _))
  refine hP _ _ _ _ _ _ (op_back e S _ (by omega) hT (fun S1 x ok _ hm => ?_))
  obtain ⟨v, rfl⟩ := ok
  show P _ _ _ _ _ _
  refine hxs _ _ _ _ _ _ (fun q1 => ?_)
  obtain ⟨q1, q2⟩ := q1
  have x1 : ∀ k, S1.1 60 0 k = S.1 60 0 k := fun k => by rw [q1, hs1]
  repeat (first | (refine hP _ _ _ _ _ _ ?_; show P _ _ _ _ _ _) | (refine hP _ _ _ _ _ _ (And.intro (hN _ _ _ rfl) ?_); show P _ _ (aR _ _ :: _) _ _ _))
  refine hP _ _ _ _ _ _ (hm e _ (by omega) (fun S2 hT2 => ?_))
  repeat (first | (refine hP _ _ _ _ _ _ ?_; show P _ _ _ _ _ _) | (refine hP _ _ _ _ _ _ (And.intro (hN _ _ _ rfl) ?_); show P _ _ (aR _ _ :: _) _ _ _))
  refine hP _ _ _ _ _ _ (And.intro (fun _ => ?_) (fun hc => absurd rfl hc))
  exact h S2 hT2
theorem lw_count {e : Nat} {P : PT} {K : KT} {xs : Nat → Int32} {L i fc fs : Nat} {S : St} (he : 300 ≤ e) (hP : ∀ pc L st S fc fs, F m_L_law (Call e) K P pc L st S fc fs → P pc L st S fc fs) (hxs : ∀ pc ll st S fc fs, ((∀ k, S.1 60 0 k = xs k) ∧ S.2.2.2.1 1000 = L → P pc ll st S fc fs) → P pc ll st S fc fs) (hS : (∀ k, S.1 60 0 k = xs k) ∧ S.2.2.2.1 1000 = L) (hi : i + 6 ≤ L) (hT : TTx S) (hfc : fc + 1000 ≤ 600000) (hfs : fs + 165 ≤ 7302250) (h : ∀ S2, TTx S2 → P 1022 (lwL i) [] S2 (fc + 0) (fs + 0)) : P 764 (lwL i) [] S fc fs := by
  have hN : True := trivial
  obtain ⟨hs1, hs2⟩ := hS
  unfold lwL at h ⊢
  repeat (first | (refine hP _ _ _ _ _ _ ?_; show P _ _ _ _ _ _) | (refine hP _ _ _ _ _ _ (And.intro (hN _ _ _ rfl) ?_); show P _ _ (aR _ _ :: _) _ _ _))
  refine hP _ _ _ _ _ _ (Exists.intro (i + 1) (And.intro (And.intro (nI_1 i) (by show i + 1 < S.2.2.2.1 1000; omega)) ?_))
  repeat (first | (refine hP _ _ _ _ _ _ ?_; show P _ _ _ _ _ _) | (refine hP _ _ _ _ _ _ (And.intro (hN _ _ _ rfl) ?_); show P _ _ (aR _ _ :: _) _ _ _))
  refine hP _ _ _ _ _ _ (op_count (S.1 60 0 (i + 1)) e S _ (by omega) hT (fun S1 x ok _ hm => ?_))
  obtain ⟨v, rfl⟩ := ok
  show P _ _ _ _ _ _
  refine hxs _ _ _ _ _ _ (fun q1 => ?_)
  obtain ⟨q1, q2⟩ := q1
  have x1 : ∀ k, S1.1 60 0 k = S.1 60 0 k := fun k => by rw [q1, hs1]
  repeat (first | (refine hP _ _ _ _ _ _ ?_; show P _ _ _ _ _ _) | (refine hP _ _ _ _ _ _ (And.intro (hN _ _ _ rfl) ?_); show P _ _ (aR _ _ :: _) _ _ _))
  refine hP _ _ _ _ _ _ (Exists.intro (i + 1) (And.intro (And.intro (nI_1 i) (by show i + 1 < S1.2.2.2.1 1000; omega)) ?_))
  rw [x1]
  repeat (first | (refine hP _ _ _ _ _ _ ?_; show P _ _ _ _ _ _) | (refine hP _ _ _ _ _ _ (And.intro (hN _ _ _ rfl) ?_); show P _ _ (aR _ _ :: _) _ _ _))
  refine hP _ _ _ _ _ _ (hm e _ (by omega) (fun S2 hT2 => ?_))
  repeat (first | (refine hP _ _ _ _ _ _ ?_; show P _ _ _ _ _ _) | (refine hP _ _ _ _ _ _ (And.intro (hN _ _ _ rfl) ?_); show P _ _ (aR _ _ :: _) _ _ _))
  refine hP _ _ _ _ _ _ (And.intro (fun _ => ?_) (fun hc => absurd rfl hc))
  exact h S2 hT2
theorem lw_sheet {e : Nat} {P : PT} {K : KT} {xs : Nat → Int32} {L i fc fs : Nat} {S : St} (he : 300 ≤ e) (hP : ∀ pc L st S fc fs, F m_L_law (Call e) K P pc L st S fc fs → P pc L st S fc fs) (hxs : ∀ pc ll st S fc fs, ((∀ k, S.1 60 0 k = xs k) ∧ S.2.2.2.1 1000 = L → P pc ll st S fc fs) → P pc ll st S fc fs) (hS : (∀ k, S.1 60 0 k = xs k) ∧ S.2.2.2.1 1000 = L) (hi : i + 6 ≤ L) (hT : TTx S) (hfc : fc + 1000 ≤ 600000) (hfs : fs + 165 ≤ 7302250) (h : ∀ S2, TTx S2 → P 1022 (lwL i) [] S2 (fc + 0) (fs + 0)) : P 787 (lwL i) [] S fc fs := by
  have hN : True := trivial
  obtain ⟨hs1, hs2⟩ := hS
  unfold lwL at h ⊢
  repeat (first | (refine hP _ _ _ _ _ _ ?_; show P _ _ _ _ _ _) | (refine hP _ _ _ _ _ _ (And.intro (hN _ _ _ rfl) ?_); show P _ _ (aR _ _ :: _) _ _ _))
  refine hP _ _ _ _ _ _ (Exists.intro (i + 1) (And.intro (And.intro (nI_1 i) (by show i + 1 < S.2.2.2.1 1000; omega)) ?_))
  repeat (first | (refine hP _ _ _ _ _ _ ?_; show P _ _ _ _ _ _) | (refine hP _ _ _ _ _ _ (And.intro (hN _ _ _ rfl) ?_); show P _ _ (aR _ _ :: _) _ _ _))
  refine hP _ _ _ _ _ _ (Exists.intro (i + 2) (And.intro (And.intro (nI_add i 2) (by show i + 2 < S.2.2.2.1 1000; omega)) ?_))
  repeat (first | (refine hP _ _ _ _ _ _ ?_; show P _ _ _ _ _ _) | (refine hP _ _ _ _ _ _ (And.intro (hN _ _ _ rfl) ?_); show P _ _ (aR _ _ :: _) _ _ _))
  refine hP _ _ _ _ _ _ (Exists.intro (i + 3) (And.intro (And.intro (nI_add i 3) (by show i + 3 < S.2.2.2.1 1000; omega)) ?_))
  repeat (first | (refine hP _ _ _ _ _ _ ?_; show P _ _ _ _ _ _) | (refine hP _ _ _ _ _ _ (And.intro (hN _ _ _ rfl) ?_); show P _ _ (aR _ _ :: _) _ _ _))
  refine hP _ _ _ _ _ _ (op_sheet (S.1 60 0 (i + 1)) (S.1 60 0 (i + 2)) (S.1 60 0 (i + 3)) e S _ (by omega) hT (fun S1 x ok _ hm => ?_))
  obtain ⟨v, rfl⟩ := ok
  show P _ _ _ _ _ _
  refine hxs _ _ _ _ _ _ (fun q1 => ?_)
  obtain ⟨q1, q2⟩ := q1
  have x1 : ∀ k, S1.1 60 0 k = S.1 60 0 k := fun k => by rw [q1, hs1]
  repeat (first | (refine hP _ _ _ _ _ _ ?_; show P _ _ _ _ _ _) | (refine hP _ _ _ _ _ _ (And.intro (hN _ _ _ rfl) ?_); show P _ _ (aR _ _ :: _) _ _ _))
  refine hP _ _ _ _ _ _ (Exists.intro (i + 1) (And.intro (And.intro (nI_1 i) (by show i + 1 < S1.2.2.2.1 1000; omega)) ?_))
  rw [x1]
  repeat (first | (refine hP _ _ _ _ _ _ ?_; show P _ _ _ _ _ _) | (refine hP _ _ _ _ _ _ (And.intro (hN _ _ _ rfl) ?_); show P _ _ (aR _ _ :: _) _ _ _))
  refine hP _ _ _ _ _ _ (Exists.intro (i + 2) (And.intro (And.intro (nI_add i 2) (by show i + 2 < S1.2.2.2.1 1000; omega)) ?_))
  rw [x1]
  repeat (first | (refine hP _ _ _ _ _ _ ?_; show P _ _ _ _ _ _) | (refine hP _ _ _ _ _ _ (And.intro (hN _ _ _ rfl) ?_); show P _ _ (aR _ _ :: _) _ _ _))
  refine hP _ _ _ _ _ _ (Exists.intro (i + 3) (And.intro (And.intro (nI_add i 3) (by show i + 3 < S1.2.2.2.1 1000; omega)) ?_))
  rw [x1]
  repeat (first | (refine hP _ _ _ _ _ _ ?_; show P _ _ _ _ _ _) | (refine hP _ _ _ _ _ _ (And.intro (hN _ _ _ rfl) ?_); show P _ _ (aR _ _ :: _) _ _ _))
  refine hP _ _ _ _ _ _ (hm e _ (by omega) (fun S2 hT2 => ?_))
  repeat (first | (refine hP _ _ _ _ _ _ ?_; show P _ _ _ _ _ _) | (refine hP _ _ _ _ _ _ (And.intro (hN _ _ _ rfl) ?_); show P _ _ (aR _ _ :: _) _ _ _))
  refine hP _ _ _ _ _ _ (And.intro (fun _ => ?_) (fun hc => absurd rfl hc))
  exact h S2 hT2
theorem lw_cell {e : Nat} {P : PT} {K : KT} {xs : Nat → Int32} {L i fc fs : Nat} {S : St} (he : 300 ≤ e) (hP : ∀ pc L st S fc fs, F m_L_law (Call e) K P pc L st S fc fs → P pc L st S fc fs) (hxs : ∀ pc ll st S fc fs, ((∀ k, S.1 60 0 k = xs k) ∧ S.2.2.2.1 1000 = L → P pc ll st S fc fs) → P pc ll st S fc fs) (hS : (∀ k, S.1 60 0 k = xs k) ∧ S.2.2.2.1 1000 = L) (hi : i + 6 ≤ L) (hT : TTx S) (hfc : fc + 1000 ≤ 600000) (hfs : fs + 165 ≤ 7302250) (h : ∀ S2, TTx S2 → P 1022 (lwL i) [] S2 (fc + 0) (fs + 0)) : P 830 (lwL i) [] S fc fs := by
  have hN : True := trivial
  obtain ⟨hs1, hs2⟩ := hS
  unfold lwL at h ⊢
  repeat (first | (refine hP _ _ _ _ _ _ ?_; show P _ _ _ _ _ _) | (refine hP _ _ _ _ _ _ (And.intro (hN _ _ _ rfl) ?_); show P _ _ (aR _ _ :: _) _ _ _))
  refine hP _ _ _ _ _ _ (Exists.intro (i + 1) (And.intro (And.intro (nI_1 i) (by show i + 1 < S.2.2.2.1 1000; omega)) ?_))
  repeat (first | (refine hP _ _ _ _ _ _ ?_; show P _ _ _ _ _ _) | (refine hP _ _ _ _ _ _ (And.intro (hN _ _ _ rfl) ?_); show P _ _ (aR _ _ :: _) _ _ _))
  refine hP _ _ _ _ _ _ (Exists.intro (i + 2) (And.intro (And.intro (nI_add i 2) (by show i + 2 < S.2.2.2.1 1000; omega)) ?_))
  repeat (first | (refine hP _ _ _ _ _ _ ?_; show P _ _ _ _ _ _) | (refine hP _ _ _ _ _ _ (And.intro (hN _ _ _ rfl) ?_); show P _ _ (aR _ _ :: _) _ _ _))
  refine hP _ _ _ _ _ _ (Exists.intro (i + 3) (And.intro (And.intro (nI_add i 3) (by show i + 3 < S.2.2.2.1 1000; omega)) ?_))
  repeat (first | (refine hP _ _ _ _ _ _ ?_; show P _ _ _ _ _ _) | (refine hP _ _ _ _ _ _ (And.intro (hN _ _ _ rfl) ?_); show P _ _ (aR _ _ :: _) _ _ _))
  refine hP _ _ _ _ _ _ (op_cell (S.1 60 0 (i + 1)) (S.1 60 0 (i + 2)) (S.1 60 0 (i + 3)) e S _ (by omega) hT (fun S1 x ok _ hm => ?_))
  obtain ⟨v, rfl⟩ := ok
  show P _ _ _ _ _ _
  refine hxs _ _ _ _ _ _ (fun q1 => ?_)
  obtain ⟨q1, q2⟩ := q1
  have x1 : ∀ k, S1.1 60 0 k = S.1 60 0 k := fun k => by rw [q1, hs1]
  repeat (first | (refine hP _ _ _ _ _ _ ?_; show P _ _ _ _ _ _) | (refine hP _ _ _ _ _ _ (And.intro (hN _ _ _ rfl) ?_); show P _ _ (aR _ _ :: _) _ _ _))
  refine hP _ _ _ _ _ _ (Exists.intro (i + 1) (And.intro (And.intro (nI_1 i) (by show i + 1 < S1.2.2.2.1 1000; omega)) ?_))
  rw [x1]
  repeat (first | (refine hP _ _ _ _ _ _ ?_; show P _ _ _ _ _ _) | (refine hP _ _ _ _ _ _ (And.intro (hN _ _ _ rfl) ?_); show P _ _ (aR _ _ :: _) _ _ _))
  refine hP _ _ _ _ _ _ (Exists.intro (i + 2) (And.intro (And.intro (nI_add i 2) (by show i + 2 < S1.2.2.2.1 1000; omega)) ?_))
  rw [x1]
  repeat (first | (refine hP _ _ _ _ _ _ ?_; show P _ _ _ _ _ _) | (refine hP _ _ _ _ _ _ (And.intro (hN _ _ _ rfl) ?_); show P _ _ (aR _ _ :: _) _ _ _))
  refine hP _ _ _ _ _ _ (Exists.intro (i + 3) (And.intro (And.intro (nI_add i 3) (by show i + 3 < S1.2.2.2.1 1000; omega)) ?_))
  rw [x1]
  repeat (first | (refine hP _ _ _ _ _ _ ?_; show P _ _ _ _ _ _) | (refine hP _ _ _ _ _ _ (And.intro (hN _ _ _ rfl) ?_); show P _ _ (aR _ _ :: _) _ _ _))
  refine hP _ _ _ _ _ _ (hm e _ (by omega) (fun S2 hT2 => ?_))
  repeat (first | (refine hP _ _ _ _ _ _ ?_; show P _ _ _ _ _ _) | (refine hP _ _ _ _ _ _ (And.intro (hN _ _ _ rfl) ?_); show P _ _ (aR _ _ :: _) _ _ _))
  refine hP _ _ _ _ _ _ (And.intro (fun _ => ?_) (fun hc => absurd rfl hc))
  exact h S2 hT2
theorem lw_copy {e : Nat} {P : PT} {K : KT} {xs : Nat → Int32} {L i fc fs : Nat} {S : St} (he : 300 ≤ e) (hP : ∀ pc L st S fc fs, F m_L_law (Call e) K P pc L st S fc fs → P pc L st S fc fs) (hxs : ∀ pc ll st S fc fs, ((∀ k, S.1 60 0 k = xs k) ∧ S.2.2.2.1 1000 = L → P pc ll st S fc fs) → P pc ll st S fc fs) (hS : (∀ k, S.1 60 0 k = xs k) ∧ S.2.2.2.1 1000 = L) (hi : i + 6 ≤ L) (hT : TTx S) (hfc : fc + 1000 ≤ 600000) (hfs : fs + 165 ≤ 7302250) (h : ∀ S2, TTx S2 → P 1022 (lwL i) [] S2 (fc + 0) (fs + 0)) : P 873 (lwL i) [] S fc fs := by
  have hN : True := trivial
  obtain ⟨hs1, hs2⟩ := hS
  unfold lwL at h ⊢
  repeat (first | (refine hP _ _ _ _ _ _ ?_; show P _ _ _ _ _ _) | (refine hP _ _ _ _ _ _ (And.intro (hN _ _ _ rfl) ?_); show P _ _ (aR _ _ :: _) _ _ _))
  refine hP _ _ _ _ _ _ (Exists.intro (i + 1) (And.intro (And.intro (nI_1 i) (by show i + 1 < S.2.2.2.1 1000; omega)) ?_))
  repeat (first | (refine hP _ _ _ _ _ _ ?_; show P _ _ _ _ _ _) | (refine hP _ _ _ _ _ _ (And.intro (hN _ _ _ rfl) ?_); show P _ _ (aR _ _ :: _) _ _ _))
  refine hP _ _ _ _ _ _ (Exists.intro (i + 2) (And.intro (And.intro (nI_add i 2) (by show i + 2 < S.2.2.2.1 1000; omega)) ?_))
  repeat (first | (refine hP _ _ _ _ _ _ ?_; show P _ _ _ _ _ _) | (refine hP _ _ _ _ _ _ (And.intro (hN _ _ _ rfl) ?_); show P _ _ (aR _ _ :: _) _ _ _))
  refine hP _ _ _ _ _ _ (Exists.intro (i + 3) (And.intro (And.intro (nI_add i 3) (by show i + 3 < S.2.2.2.1 1000; omega)) ?_))
  repeat (first | (refine hP _ _ _ _ _ _ ?_; show P _ _ _ _ _ _) | (refine hP _ _ _ _ _ _ (And.intro (hN _ _ _ rfl) ?_); show P _ _ (aR _ _ :: _) _ _ _))
  refine hP _ _ _ _ _ _ (Exists.intro (i + 4) (And.intro (And.intro (nI_add i 4) (by show i + 4 < S.2.2.2.1 1000; omega)) ?_))
  repeat (first | (refine hP _ _ _ _ _ _ ?_; show P _ _ _ _ _ _) | (refine hP _ _ _ _ _ _ (And.intro (hN _ _ _ rfl) ?_); show P _ _ (aR _ _ :: _) _ _ _))
  refine hP _ _ _ _ _ _ (Exists.intro (i + 5) (And.intro (And.intro (nI_add i 5) (by show i + 5 < S.2.2.2.1 1000; omega)) ?_))
  repeat (first | (refine hP _ _ _ _ _ _ ?_; show P _ _ _ _ _ _) | (refine hP _ _ _ _ _ _ (And.intro (hN _ _ _ rfl) ?_); show P _ _ (aR _ _ :: _) _ _ _))
  refine hP _ _ _ _ _ _ (op_copy (S.1 60 0 (i + 1)) (S.1 60 0 (i + 2)) (S.1 60 0 (i + 3)) (S.1 60 0 (i + 4)) (S.1 60 0 (i + 5)) e S _ (by omega) hT (fun S1 x ok _ hm => ?_))
  obtain ⟨v, rfl⟩ := ok
  show P _ _ _ _ _ _
  refine hxs _ _ _ _ _ _ (fun q1 => ?_)
  obtain ⟨q1, q2⟩ := q1
  have x1 : ∀ k, S1.1 60 0 k = S.1 60 0 k := fun k => by rw [q1, hs1]
  repeat (first | (refine hP _ _ _ _ _ _ ?_; show P _ _ _ _ _ _) | (refine hP _ _ _ _ _ _ (And.intro (hN _ _ _ rfl) ?_); show P _ _ (aR _ _ :: _) _ _ _))
  refine hP _ _ _ _ _ _ (Exists.intro (i + 1) (And.intro (And.intro (nI_1 i) (by show i + 1 < S1.2.2.2.1 1000; omega)) ?_))
  rw [x1]
  repeat (first | (refine hP _ _ _ _ _ _ ?_; show P _ _ _ _ _ _) | (refine hP _ _ _ _ _ _ (And.intro (hN _ _ _ rfl) ?_); show P _ _ (aR _ _ :: _) _ _ _))
  refine hP _ _ _ _ _ _ (Exists.intro (i + 2) (And.intro (And.intro (nI_add i 2) (by show i + 2 < S1.2.2.2.1 1000; omega)) ?_))
  rw [x1]
  repeat (first | (refine hP _ _ _ _ _ _ ?_; show P _ _ _ _ _ _) | (refine hP _ _ _ _ _ _ (And.intro (hN _ _ _ rfl) ?_); show P _ _ (aR _ _ :: _) _ _ _))
  refine hP _ _ _ _ _ _ (Exists.intro (i + 3) (And.intro (And.intro (nI_add i 3) (by show i + 3 < S1.2.2.2.1 1000; omega)) ?_))
  rw [x1]
  repeat (first | (refine hP _ _ _ _ _ _ ?_; show P _ _ _ _ _ _) | (refine hP _ _ _ _ _ _ (And.intro (hN _ _ _ rfl) ?_); show P _ _ (aR _ _ :: _) _ _ _))
  refine hP _ _ _ _ _ _ (Exists.intro (i + 4) (And.intro (And.intro (nI_add i 4) (by show i + 4 < S1.2.2.2.1 1000; omega)) ?_))
  rw [x1]
  repeat (first | (refine hP _ _ _ _ _ _ ?_; show P _ _ _ _ _ _) | (refine hP _ _ _ _ _ _ (And.intro (hN _ _ _ rfl) ?_); show P _ _ (aR _ _ :: _) _ _ _))
  refine hP _ _ _ _ _ _ (Exists.intro (i + 5) (And.intro (And.intro (nI_add i 5) (by show i + 5 < S1.2.2.2.1 1000; omega)) ?_))
  rw [x1]
  repeat (first | (refine hP _ _ _ _ _ _ ?_; show P _ _ _ _ _ _) | (refine hP _ _ _ _ _ _ (And.intro (hN _ _ _ rfl) ?_); show P _ _ (aR _ _ :: _) _ _ _))
  refine hP _ _ _ _ _ _ (hm e _ (by omega) (fun S2 hT2 => ?_))
  repeat (first | (refine hP _ _ _ _ _ _ ?_; show P _ _ _ _ _ _) | (refine hP _ _ _ _ _ _ (And.intro (hN _ _ _ rfl) ?_); show P _ _ (aR _ _ :: _) _ _ _))
  refine hP _ _ _ _ _ _ (And.intro (fun _ => ?_) (fun hc => absurd rfl hc))
  exact h S2 hT2
theorem lw_room {e : Nat} {P : PT} {K : KT} {xs : Nat → Int32} {L i fc fs : Nat} {S : St} (he : 300 ≤ e) (hP : ∀ pc L st S fc fs, F m_L_law (Call e) K P pc L st S fc fs → P pc L st S fc fs) (hxs : ∀ pc ll st S fc fs, ((∀ k, S.1 60 0 k = xs k) ∧ S.2.2.2.1 1000 = L → P pc ll st S fc fs) → P pc ll st S fc fs) (hS : (∀ k, S.1 60 0 k = xs k) ∧ S.2.2.2.1 1000 = L) (hi : i + 6 ≤ L) (hT : TTx S) (hfc : fc + 1000 ≤ 600000) (hfs : fs + 165 ≤ 7302250) (h : ∀ S2, TTx S2 → P 1022 (lwL i) [] S2 (fc + 0) (fs + 0)) : P 936 (lwL i) [] S fc fs := by
  have hN : True := trivial
  obtain ⟨hs1, hs2⟩ := hS
  unfold lwL at h ⊢
  repeat (first | (refine hP _ _ _ _ _ _ ?_; show P _ _ _ _ _ _) | (refine hP _ _ _ _ _ _ (And.intro (hN _ _ _ rfl) ?_); show P _ _ (aR _ _ :: _) _ _ _))
  refine hP _ _ _ _ _ _ (Exists.intro (i + 1) (And.intro (And.intro (nI_1 i) (by show i + 1 < S.2.2.2.1 1000; omega)) ?_))
  repeat (first | (refine hP _ _ _ _ _ _ ?_; show P _ _ _ _ _ _) | (refine hP _ _ _ _ _ _ (And.intro (hN _ _ _ rfl) ?_); show P _ _ (aR _ _ :: _) _ _ _))
  refine hP _ _ _ _ _ _ (Exists.intro (i + 2) (And.intro (And.intro (nI_add i 2) (by show i + 2 < S.2.2.2.1 1000; omega)) ?_))
  repeat (first | (refine hP _ _ _ _ _ _ ?_; show P _ _ _ _ _ _) | (refine hP _ _ _ _ _ _ (And.intro (hN _ _ _ rfl) ?_); show P _ _ (aR _ _ :: _) _ _ _))
  refine hP _ _ _ _ _ _ (Exists.intro (i + 3) (And.intro (And.intro (nI_add i 3) (by show i + 3 < S.2.2.2.1 1000; omega)) ?_))
  repeat (first | (refine hP _ _ _ _ _ _ ?_; show P _ _ _ _ _ _) | (refine hP _ _ _ _ _ _ (And.intro (hN _ _ _ rfl) ?_); show P _ _ (aR _ _ :: _) _ _ _))
  refine hP _ _ _ _ _ _ (Exists.intro (i + 4) (And.intro (And.intro (nI_add i 4) (by show i + 4 < S.2.2.2.1 1000; omega)) ?_))
  repeat (first | (refine hP _ _ _ _ _ _ ?_; show P _ _ _ _ _ _) | (refine hP _ _ _ _ _ _ (And.intro (hN _ _ _ rfl) ?_); show P _ _ (aR _ _ :: _) _ _ _))
  refine hP _ _ _ _ _ _ (op_room (S.1 60 0 (i + 1)) (S.1 60 0 (i + 2)) (S.1 60 0 (i + 3)) (S.1 60 0 (i + 4)) e S _ (by omega) hT (fun S1 x ok _ hm => ?_))
  obtain ⟨v, rfl⟩ := ok
  show P _ _ _ _ _ _
  refine hxs _ _ _ _ _ _ (fun q1 => ?_)
  obtain ⟨q1, q2⟩ := q1
  have x1 : ∀ k, S1.1 60 0 k = S.1 60 0 k := fun k => by rw [q1, hs1]
  repeat (first | (refine hP _ _ _ _ _ _ ?_; show P _ _ _ _ _ _) | (refine hP _ _ _ _ _ _ (And.intro (hN _ _ _ rfl) ?_); show P _ _ (aR _ _ :: _) _ _ _))
  refine hP _ _ _ _ _ _ (Exists.intro (i + 1) (And.intro (And.intro (nI_1 i) (by show i + 1 < S1.2.2.2.1 1000; omega)) ?_))
  rw [x1]
  repeat (first | (refine hP _ _ _ _ _ _ ?_; show P _ _ _ _ _ _) | (refine hP _ _ _ _ _ _ (And.intro (hN _ _ _ rfl) ?_); show P _ _ (aR _ _ :: _) _ _ _))
  refine hP _ _ _ _ _ _ (Exists.intro (i + 2) (And.intro (And.intro (nI_add i 2) (by show i + 2 < S1.2.2.2.1 1000; omega)) ?_))
  rw [x1]
  repeat (first | (refine hP _ _ _ _ _ _ ?_; show P _ _ _ _ _ _) | (refine hP _ _ _ _ _ _ (And.intro (hN _ _ _ rfl) ?_); show P _ _ (aR _ _ :: _) _ _ _))
  refine hP _ _ _ _ _ _ (Exists.intro (i + 3) (And.intro (And.intro (nI_add i 3) (by show i + 3 < S1.2.2.2.1 1000; omega)) ?_))
  rw [x1]
  repeat (first | (refine hP _ _ _ _ _ _ ?_; show P _ _ _ _ _ _) | (refine hP _ _ _ _ _ _ (And.intro (hN _ _ _ rfl) ?_); show P _ _ (aR _ _ :: _) _ _ _))
  refine hP _ _ _ _ _ _ (Exists.intro (i + 4) (And.intro (And.intro (nI_add i 4) (by show i + 4 < S1.2.2.2.1 1000; omega)) ?_))
  rw [x1]
  repeat (first | (refine hP _ _ _ _ _ _ ?_; show P _ _ _ _ _ _) | (refine hP _ _ _ _ _ _ (And.intro (hN _ _ _ rfl) ?_); show P _ _ (aR _ _ :: _) _ _ _))
  refine hP _ _ _ _ _ _ (hm e _ (by omega) (fun S2 hT2 => ?_))
  repeat (first | (refine hP _ _ _ _ _ _ ?_; show P _ _ _ _ _ _) | (refine hP _ _ _ _ _ _ (And.intro (hN _ _ _ rfl) ?_); show P _ _ (aR _ _ :: _) _ _ _))
  refine hP _ _ _ _ _ _ (And.intro (fun _ => ?_) (fun hc => absurd rfl hc))
  exact h S2 hT2
theorem lw_taken {e : Nat} {P : PT} {K : KT} {xs : Nat → Int32} {L i fc fs : Nat} {S : St} (he : 300 ≤ e) (hP : ∀ pc L st S fc fs, F m_L_law (Call e) K P pc L st S fc fs → P pc L st S fc fs) (hxs : ∀ pc ll st S fc fs, ((∀ k, S.1 60 0 k = xs k) ∧ S.2.2.2.1 1000 = L → P pc ll st S fc fs) → P pc ll st S fc fs) (hS : (∀ k, S.1 60 0 k = xs k) ∧ S.2.2.2.1 1000 = L) (hi : i + 6 ≤ L) (hT : TTx S) (hfc : fc + 1000 ≤ 600000) (hfs : fs + 165 ≤ 7302250) (h : ∀ S2, TTx S2 → P 1022 (lwL i) [] S2 (fc + 0) (fs + 0)) : P 989 (lwL i) [] S fc fs := by
  have hN : True := trivial
  obtain ⟨hs1, hs2⟩ := hS
  unfold lwL at h ⊢
  repeat (first | (refine hP _ _ _ _ _ _ ?_; show P _ _ _ _ _ _) | (refine hP _ _ _ _ _ _ (And.intro (hN _ _ _ rfl) ?_); show P _ _ (aR _ _ :: _) _ _ _))
  refine hP _ _ _ _ _ _ (Exists.intro (i + 1) (And.intro (And.intro (nI_1 i) (by show i + 1 < S.2.2.2.1 1000; omega)) ?_))
  repeat (first | (refine hP _ _ _ _ _ _ ?_; show P _ _ _ _ _ _) | (refine hP _ _ _ _ _ _ (And.intro (hN _ _ _ rfl) ?_); show P _ _ (aR _ _ :: _) _ _ _))
  refine hP _ _ _ _ _ _ (Exists.intro (i + 2) (And.intro (And.intro (nI_add i 2) (by show i + 2 < S.2.2.2.1 1000; omega)) ?_))
  repeat (first | (refine hP _ _ _ _ _ _ ?_; show P _ _ _ _ _ _) | (refine hP _ _ _ _ _ _ (And.intro (hN _ _ _ rfl) ?_); show P _ _ (aR _ _ :: _) _ _ _))
  refine hP _ _ _ _ _ _ (op_taken (S.1 60 0 (i + 1)) (S.1 60 0 (i + 2)) e S _ (by omega) hT (fun S1 x ok _ hm => ?_))
  obtain ⟨v, rfl⟩ := ok
  show P _ _ _ _ _ _
  refine hxs _ _ _ _ _ _ (fun q1 => ?_)
  obtain ⟨q1, q2⟩ := q1
  have x1 : ∀ k, S1.1 60 0 k = S.1 60 0 k := fun k => by rw [q1, hs1]
  repeat (first | (refine hP _ _ _ _ _ _ ?_; show P _ _ _ _ _ _) | (refine hP _ _ _ _ _ _ (And.intro (hN _ _ _ rfl) ?_); show P _ _ (aR _ _ :: _) _ _ _))
  refine hP _ _ _ _ _ _ (Exists.intro (i + 1) (And.intro (And.intro (nI_1 i) (by show i + 1 < S1.2.2.2.1 1000; omega)) ?_))
  rw [x1]
  repeat (first | (refine hP _ _ _ _ _ _ ?_; show P _ _ _ _ _ _) | (refine hP _ _ _ _ _ _ (And.intro (hN _ _ _ rfl) ?_); show P _ _ (aR _ _ :: _) _ _ _))
  refine hP _ _ _ _ _ _ (Exists.intro (i + 2) (And.intro (And.intro (nI_add i 2) (by show i + 2 < S1.2.2.2.1 1000; omega)) ?_))
  rw [x1]
  repeat (first | (refine hP _ _ _ _ _ _ ?_; show P _ _ _ _ _ _) | (refine hP _ _ _ _ _ _ (And.intro (hN _ _ _ rfl) ?_); show P _ _ (aR _ _ :: _) _ _ _))
  refine hP _ _ _ _ _ _ (hm e _ (by omega) (fun S2 hT2 => ?_))
  repeat (first | (refine hP _ _ _ _ _ _ ?_; show P _ _ _ _ _ _) | (refine hP _ _ _ _ _ _ (And.intro (hN _ _ _ rfl) ?_); show P _ _ (aR _ _ :: _) _ _ _))
  refine hP _ _ _ _ _ _ (And.intro (fun _ => ?_) (fun hc => absurd rfl hc))
  exact h S2 hT2
set_option maxRecDepth 20000 in
theorem lw_loop {e : Nat} {P : PT} {K : KT} {xs : Nat → Int32} {L : Nat} (he : 300 ≤ e) (hL : L ≤ 3072) (hP : ∀ pc L st S fc fs, F m_L_law (Call e) K P pc L st S fc fs → P pc L st S fc fs) (hxs : ∀ pc ll st S fc fs, ((∀ k, S.1 60 0 k = xs k) ∧ S.2.2.2.1 1000 = L → P pc ll st S fc fs) → P pc ll st S fc fs) (hK : ∀ S, K (some (aI 1)) S) : ∀ m n, n + m = 513 → ∀ S fc fs, TTx S → fc ≤ 77 + 1000 * n → fs ≤ 2725 + 165 * n → P 24 (lwL (6 * n)) [aI (nI (S.2.2.2.1 1000) - 6), aI (nI (6 * n))] S fc fs := by
  have hN : True := trivial
  have out : ∀ n, n ≤ 513 → ¬ 6 * n + 6 ≤ L → ∀ S fc fs, P 24 (lwL (6 * n)) [aI (nI (S.2.2.2.1 1000) - 6), aI (nI (6 * n))] S fc fs := by
    intro n hn hle S fc fs
    refine hxs _ _ _ _ _ _ (fun q => ?_)
    rw [q.2]
    unfold lwL
    refine hP _ _ _ _ _ _ (And.intro (fun _ => ?_) (fun hc => absurd ((le6 hL (by omega)).mpr hle) hc))
    repeat (first | (refine hP _ _ _ _ _ _ ?_; show P _ _ _ _ _ _) | (refine hP _ _ _ _ _ _ (And.intro (hN _ _ _ rfl) ?_); show P _ _ (aR _ _ :: _) _ _ _))
    refine hP _ _ _ _ _ _ (And.intro (Or.inr rfl) (hK S))
  intro m
  induction m with
  | zero =>
    intro n hn S fc fs hT hfc hfs
    exact out n (by omega) (by omega) S fc fs
  | succ m ih =>
    intro n hn S fc fs hT hfc hfs
    by_cases hle : 6 * n + 6 ≤ L
    · refine hxs _ _ _ _ _ _ (fun q => ?_)
      have back : ∀ fc' fs', fc' ≤ fc + 1000 → fs' ≤ fs + 165 → ∀ S2, TTx S2 → P 1022 (lwL (6 * n)) [] S2 fc' fs' := by
        intro fc' fs' h1 h2 S2 hT2
        have := ih (n + 1) (by omega) S2 fc' fs' hT2 (by omega) (by omega)
        rw [show 6 * (n + 1) = 6 * n + 6 by omega, ← nI_add (6 * n) 6] at this
        unfold lwL at this ⊢
        rw [← nI_add (6 * n) 6] at this
        repeat (first | (refine hP _ _ _ _ _ _ ?_; show P _ _ _ _ _ _) | (refine hP _ _ _ _ _ _ (And.intro (hN _ _ _ rfl) ?_); show P _ _ (aR _ _ :: _) _ _ _))
        exact this
      rw [q.2]
      unfold lwL
      refine hP _ _ _ _ _ _ (And.intro (fun hc => absurd hc (fun z => (le6 hL (by omega)).mp z hle)) (fun _ => ?_))
      repeat (first | (refine hP _ _ _ _ _ _ ?_; show P _ _ _ _ _ _) | (refine hP _ _ _ _ _ _ (And.intro (hN _ _ _ rfl) ?_); show P _ _ (aR _ _ :: _) _ _ _))
      refine hP _ _ _ _ _ _ (Exists.intro (6 * n) (And.intro (And.intro (rfl) (by show 6 * n < S.2.2.2.1 1000; omega)) ?_))
      repeat (first | (refine hP _ _ _ _ _ _ ?_; show P _ _ _ _ _ _) | (refine hP _ _ _ _ _ _ (And.intro (hN _ _ _ rfl) ?_); show P _ _ (aR _ _ :: _) _ _ _))
      obtain ⟨w, hw, ew⟩ := pk_andE (S.1 60 0 (6 * n)) (m := 31) 5 (by decide)
      rw [ew]
      have hw : w < 32 := hw
      rcases (show w = 0 ∨ w = 1 ∨ w = 2 ∨ w = 3 ∨ w = 4 ∨ w = 5 ∨ w = 6 ∨ w = 7 ∨ w = 8 ∨ w = 9 ∨ w = 10 ∨ w = 11 ∨ w = 12 ∨ w = 13 ∨ w = 14 ∨ w = 15 ∨ w = 16 ∨ w = 17 ∨ w = 18 ∨ w = 19 ∨ w = 20 ∨ w = 21 ∨ w = 22 ∨ w = 23 ∨ w = 24 ∨ w = 25 ∨ w = 26 ∨ w = 27 ∨ w = 28 ∨ w = 29 ∨ w = 30 ∨ w = 31 by omega) with rfl | rfl | rfl | rfl | rfl | rfl | rfl | rfl | rfl | rfl | rfl | rfl | rfl | rfl | rfl | rfl | rfl | rfl | rfl | rfl | rfl | rfl | rfl | rfl | rfl | rfl | rfl | rfl | rfl | rfl | rfl | rfl
      · refine hP _ _ _ _ _ _ (swP_to ?_)
        show P 152 (lwL (6 * n)) [] _ _ _
        exact lw_set he hP hxs q hle hT (by omega) (by omega) (back _ _ (by omega) (by omega))
      · refine hP _ _ _ _ _ _ (swP_to ?_)
        show P 195 (lwL (6 * n)) [] _ _ _
        exact lw_dancer he hP hxs q hle hT (by omega) (by omega) (back _ _ (by omega) (by omega))
      · refine hP _ _ _ _ _ _ (swP_to ?_)
        show P 228 (lwL (6 * n)) [] _ _ _
        exact lw_told he hP hxs q hle hT (by omega) (by omega) (back _ _ (by omega) (by omega))
      · refine hP _ _ _ _ _ _ (swP_to ?_)
        show P 261 (lwL (6 * n)) [] _ _ _
        exact lw_asks he hP hxs q hle hT (by omega) (by omega) (back _ _ (by omega) (by omega))
      · refine hP _ _ _ _ _ _ (swP_to ?_)
        show P 304 (lwL (6 * n)) [] _ _ _
        exact lw_feed he hP hxs q hle hT (by omega) (by omega) (back _ _ (by omega) (by omega))
      · refine hP _ _ _ _ _ _ (swP_to ?_)
        show P 327 (lwL (6 * n)) [] _ _ _
        exact lw_text he hP hxs q hle hT (by omega) (by omega) (back _ _ (by omega) (by omega))
      · refine hP _ _ _ _ _ _ (swP_to ?_)
        show P 340 (lwL (6 * n)) [] _ _ _
        exact lw_force he hP hxs q hle hT (by omega) (by omega) (back _ _ (by omega) (by omega))
      · refine hP _ _ _ _ _ _ (swP_to ?_)
        show P 363 (lwL (6 * n)) [] _ _ _
        exact lw_dance he hP hxs q hle hT (by omega) (by omega) (back _ _ (by omega) (by omega))
      · refine hP _ _ _ _ _ _ (swP_to ?_)
        show P 396 (lwL (6 * n)) [] _ _ _
        exact lw_round he hP hxs q hle hT (by omega) (by omega) (back _ _ (by omega) (by omega))
      · refine hP _ _ _ _ _ _ (swP_to ?_)
        show P 409 (lwL (6 * n)) [] _ _ _
        exact lw_night he hP hxs q hle hT (by omega) (by omega) (back _ _ (by omega) (by omega))
      · refine hP _ _ _ _ _ _ (swP_to ?_)
        show P 422 (lwL (6 * n)) [] _ _ _
        exact lw_strike he hP hxs q hle hT (by omega) (by omega) (back _ _ (by omega) (by omega))
      · refine hP _ _ _ _ _ _ (swP_to ?_)
        show P 445 (lwL (6 * n)) [] _ _ _
        exact lw_run he hP hxs q hle hT (by omega) (by omega) (back _ _ (by omega) (by omega))
      · refine hP _ _ _ _ _ _ (swP_to ?_)
        show P 498 (lwL (6 * n)) [] _ _ _
        exact lw_best he hP hxs q hle hT (by omega) (by omega) (back _ _ (by omega) (by omega))
      · refine hP _ _ _ _ _ _ (swP_to ?_)
        show P 521 (lwL (6 * n)) [] _ _ _
        exact lw_share he hP hxs q hle hT (by omega) (by omega) (back _ _ (by omega) (by omega))
      · refine hP _ _ _ _ _ _ (swP_to ?_)
        show P 555 (lwL (6 * n)) [] _ _ _
        exact lw_tells he hP hxs q hle hT (by omega) (by omega) (back _ _ (by omega) (by omega))
      · refine hP _ _ _ _ _ _ (swP_to ?_)
        show P 608 (lwL (6 * n)) [] _ _ _
        exact lw_film he hP hxs q hle hT (by omega) (by omega) (back _ _ (by omega) (by omega))
      · refine hP _ _ _ _ _ _ (swP_to ?_)
        show P 661 (lwL (6 * n)) [] _ _ _
        exact lw_drawn he hP hxs q hle hT (by omega) (by omega) (back _ _ (by omega) (by omega))
      · refine hP _ _ _ _ _ _ (swP_to ?_)
        show P 684 (lwL (6 * n)) [] _ _ _
        exact lw_chance he hP hxs q hle hT (by omega) (by omega) (back _ _ (by omega) (by omega))
      · refine hP _ _ _ _ _ _ (swP_to ?_)
        show P 738 (lwL (6 * n)) [] _ _ _
        exact lw_image he hP hxs q hle hT (by omega) (by omega) (back _ _ (by omega) (by omega))
      · refine hP _ _ _ _ _ _ (swP_to ?_)
        show P 751 (lwL (6 * n)) [] _ _ _
        exact lw_back he hP hxs q hle hT (by omega) (by omega) (back _ _ (by omega) (by omega))
      · refine hP _ _ _ _ _ _ (swP_to ?_)
        show P 764 (lwL (6 * n)) [] _ _ _
        exact lw_count he hP hxs q hle hT (by omega) (by omega) (back _ _ (by omega) (by omega))
      · refine hP _ _ _ _ _ _ (swP_to ?_)
        show P 787 (lwL (6 * n)) [] _ _ _
        exact lw_sheet he hP hxs q hle hT (by omega) (by omega) (back _ _ (by omega) (by omega))
      · refine hP _ _ _ _ _ _ (swP_to ?_)
        show P 830 (lwL (6 * n)) [] _ _ _
        exact lw_cell he hP hxs q hle hT (by omega) (by omega) (back _ _ (by omega) (by omega))
      · refine hP _ _ _ _ _ _ (swP_to ?_)
        show P 873 (lwL (6 * n)) [] _ _ _
        exact lw_copy he hP hxs q hle hT (by omega) (by omega) (back _ _ (by omega) (by omega))
      · refine hP _ _ _ _ _ _ (swP_to ?_)
        show P 936 (lwL (6 * n)) [] _ _ _
        exact lw_room he hP hxs q hle hT (by omega) (by omega) (back _ _ (by omega) (by omega))
      · refine hP _ _ _ _ _ _ (swP_to ?_)
        show P 989 (lwL (6 * n)) [] _ _ _
        exact lw_taken he hP hxs q hle hT (by omega) (by omega) (back _ _ (by omega) (by omega))
      · refine hP _ _ _ _ _ _ (swP_to ?_)
        show P 1022 (lwL (6 * n)) [] _ _ _
        exact back fc fs (by omega) (by omega) S hT
      · refine hP _ _ _ _ _ _ (swP_to ?_)
        show P 1022 (lwL (6 * n)) [] _ _ _
        exact back fc fs (by omega) (by omega) S hT
      · refine hP _ _ _ _ _ _ (swP_to ?_)
        show P 1022 (lwL (6 * n)) [] _ _ _
        exact back fc fs (by omega) (by omega) S hT
      · refine hP _ _ _ _ _ _ (swP_to ?_)
        show P 1022 (lwL (6 * n)) [] _ _ _
        exact back fc fs (by omega) (by omega) S hT
      · refine hP _ _ _ _ _ _ (swP_to ?_)
        show P 1022 (lwL (6 * n)) [] _ _ _
        exact back fc fs (by omega) (by omega) S hT
      · refine hP _ _ _ _ _ _ (swP_to ?_)
        show P 1022 (lwL (6 * n)) [] _ _ _
        exact back fc fs (by omega) (by omega) S hT
    · exact out n (by omega) hle S fc fs
/-- the law, from its entry -/
theorem lw_all {e : Nat} {P : PT} {K : KT} {xs : Nat → Int32} {L : Nat} {S : St} (he : 300 ≤ e) (hL : L ≤ 3072) (hP : ∀ pc L st S fc fs, F m_L_law (Call e) K P pc L st S fc fs → P pc L st S fc fs) (hxs : ∀ pc ll st S fc fs, ((∀ k, S.1 60 0 k = xs k) ∧ S.2.2.2.1 1000 = L → P pc ll st S fc fs) → P pc ll st S fc fs) (hK : ∀ S, K (some (aI 1)) S) (hc : S.2.2.2.2 = 0) (hl : S.2.1 = 0) (z0 : ∀ j g k, j < 60 → S.1 j g k = 0) (n0 : ∀ j g k, S.2.2.1 j g k = true) (sta : STA S) : P 0 [some (aR 60 0), none, none, none] [] S 0 0 := by
  have hN : True := trivial
  refine hP _ _ _ _ _ _ (Exists.intro 0 (Exists.intro 0 ⟨by rw [hc]; rfl, rfl, (by show 0 + 1 ≤ 600000; omega), (by show 0 + 8 ≤ 7302250; omega), (fun z => by cases z), ?_⟩))
  repeat (first | (refine hP _ _ _ _ _ _ ?_; show P _ _ _ _ _ _) | (refine hP _ _ _ _ _ _ (And.intro (hN _ _ _ rfl) ?_); show P _ _ (aR _ _ :: _) _ _ _))
  refine hP _ _ _ _ _ _ (And.intro (by show 1 + 57 ≤ 600000; omega) (And.intro (by show 8 + 1066 ≤ 7302250; omega) (q_Class_init (by omega) (by show S.2.2.2.2 + 1 = 1; rw [hc]) (fun S1 e1 c1 a0 a6 a7 a18 a10 a20 r => And.intro (fun _ => by rw [c1]; show 58 = S.2.2.2.2 + 1 + 57; rw [hc]) ?_))))
  repeat (first | (refine hP _ _ _ _ _ _ ?_; show P _ _ _ _ _ _) | (refine hP _ _ _ _ _ _ (And.intro (hN _ _ _ rfl) ?_); show P _ _ (aR _ _ :: _) _ _ _))
  refine hP _ _ _ _ _ _ (Exists.intro 40 (Exists.intro 0 ⟨by rw [c1]; rfl, rfl, (by show 58 + 1 ≤ 600000; omega), (by show 1074 + 45 ≤ 7302250; omega), (fun _ => by rw [e1.2.2.1]; exact hl), ?_⟩))
  repeat (first | (refine hP _ _ _ _ _ _ ?_; show P _ _ _ _ _ _) | (refine hP _ _ _ _ _ _ (And.intro (hN _ _ _ rfl) ?_); show P _ _ (aR _ _ :: _) _ _ _))
  refine hP _ _ _ _ _ _ (And.intro (by show 59 + 18 ≤ 600000; omega) (And.intro (by show 1119 + 1606 ≤ 7302250; omega) (q_Model_init (by omega) (by show S1.2.2.2.2 + 1 = 59; rw [c1]) (fun S2 e2 c2 m => And.intro (fun _ => by rw [c2]; show 77 = S1.2.2.2.2 + 1 + 18; rw [c1]) ?_))))
  have hT := law_TT z0 n0 sta c2 e1 a0 a6 a7 a18 a10 a20 r e2 m
  have := lw_loop he hL hP hxs hK 513 0 rfl S2 77 2725 hT (by omega) (by omega)
  repeat (first | (refine hP _ _ _ _ _ _ ?_; show P _ _ _ _ _ _) | (refine hP _ _ _ _ _ _ (And.intro (hN _ _ _ rfl) ?_); show P _ _ (aR _ _ :: _) _ _ _))
  exact this
