/-! the model's constructor -/
def apT (x : Int32) (k : Nat) : Int32 := if (x >>> (nI k &&& 31)) &&& 1 = 1 then nI (boN k) else 0
def apL (x : Int32) : Nat → Int32 → Bool
  | 0, _ => true
  | m + 1, seen => if seen &&& apT x (9 - m) = 0 then apL x m (seen ||| apT x (9 - m)) else false
theorem n_isApart {d : Nat} {S : St} {K : KT} {x : Int32} (hd : 2 ≤ d) (h : K (some (aI (b2 (apL x 10 0)))) S) : Call d m_X6_isApart [aI x] S K := by
  refine Call.of (k := 1) hd (fun e he P hP => ?_)
  have hN : True := trivial
  generalize hr : apL x 10 0 = r at h
  have loop : ∀ m, m ≤ 10 → ∀ seen x3, apL x m seen = r → P 7 [some (aI x), some (aI seen), some (aI (nI (10 - m))), x3] [aI 10, aI (nI (10 - m))] S 0 0 := by
    intro m
    induction m with
    | zero =>
      intro _ seen x3 hm
      have hm : r = true := hm.symm
      subst hm
      refine hP _ _ _ _ _ _ (And.intro (fun _ => ?_) (fun hc => absurd (nI_le (a := 10) (b := 10) (Nat.le_refl 10) (by omega)) hc))
      repeat (first | (refine hP _ _ _ _ _ _ ?_; show P _ _ _ _ _ _) | (refine hP _ _ _ _ _ _ (And.intro (hN _ _ _ rfl) ?_); show P _ _ (aR _ _ :: _) _ _ _))
      refine hP _ _ _ _ _ _ (And.intro (Or.inr rfl) h)
    | succ m ih =>
      intro hm10 seen x3 hm
      rw [apL] at hm
      have rest : ∀ two, two = apT x (9 - m) → P 31 [some (aI x), some (aI seen), some (aI (nI (10 - (m + 1)))), some (aI two)] [aI (seen &&& two)] S 0 0 := by
        intro two e
        rw [← e] at hm
        refine hP _ _ _ _ _ _ (And.intro (fun hc => ?_) (fun hc => ?_))
        · rw [if_pos hc] at hm
          have := ih (by omega) (seen ||| two) (some (aI two)) hm
          rw [show 10 - m = (10 - (m + 1)) + 1 by omega, nI_succ] at this
          repeat (first | (refine hP _ _ _ _ _ _ ?_; show P _ _ _ _ _ _) | (refine hP _ _ _ _ _ _ (And.intro (hN _ _ _ rfl) ?_); show P _ _ (aR _ _ :: _) _ _ _))
          exact this
        · rw [if_neg hc] at hm
          subst hm
          repeat (first | (refine hP _ _ _ _ _ _ ?_; show P _ _ _ _ _ _) | (refine hP _ _ _ _ _ _ (And.intro (hN _ _ _ rfl) ?_); show P _ _ (aR _ _ :: _) _ _ _))
          refine hP _ _ _ _ _ _ (And.intro (Or.inl rfl) h)
      have ek : 10 - (m + 1) = 9 - m := by omega
      refine hP _ _ _ _ _ _ (And.intro (fun hc => absurd hc (nI_ge (a := 10 - (m + 1)) (b := 10) (by omega) (by omega))) (fun _ => ?_))
      repeat (first | (refine hP _ _ _ _ _ _ ?_; show P _ _ _ _ _ _) | (refine hP _ _ _ _ _ _ (And.intro (hN _ _ _ rfl) ?_); show P _ _ (aR _ _ :: _) _ _ _))
      refine hP _ _ _ _ _ _ (And.intro (fun hc => ?_) (fun hc => ?_))
      · have rest := rest 0 (by rw [apT, if_neg (by rw [← ek]; exact hc)])
        repeat (first | (refine hP _ _ _ _ _ _ ?_; show P _ _ _ _ _ _) | (refine hP _ _ _ _ _ _ (And.intro (hN _ _ _ rfl) ?_); show P _ _ (aR _ _ :: _) _ _ _))
        exact rest
      · have rest := rest (nI (boN (9 - m))) (by rw [apT, if_pos (by rw [← ek]; exact hc)])
        repeat (first | (refine hP _ _ _ _ _ _ ?_; show P _ _ _ _ _ _) | (refine hP _ _ _ _ _ _ (And.intro (hN _ _ _ rfl) ?_); show P _ _ (aR _ _ :: _) _ _ _))
        rw [ek] at rest ⊢
        refine hP _ _ _ _ _ _ (n_both (by omega) (by omega) ?_)
        repeat (first | (refine hP _ _ _ _ _ _ ?_; show P _ _ _ _ _ _) | (refine hP _ _ _ _ _ _ (And.intro (hN _ _ _ rfl) ?_); show P _ _ (aR _ _ :: _) _ _ _))
        exact rest
  repeat (first | (refine hP _ _ _ _ _ _ ?_; show P _ _ _ _ _ _) | (refine hP _ _ _ _ _ _ (And.intro (hN _ _ _ rfl) ?_); show P _ _ (aR _ _ :: _) _ _ _))
  exact loop 10 (Nat.le_refl 10) 0 none hr
def apB (t : Nat) : Bool := apL (nI t) 10 0
def apCk : Nat → Nat → Nat → Bool
  | 0, _, n => Nat.beq n 26
  | m + 1, t, n => bif apB t then (Nat.blt n 26 && Nat.beq (setN n) t) && apCk m (t + 1) (n + 1) else apCk m (t + 1) n
set_option maxRecDepth 20000 in
theorem apCk_ok : apCk 1024 0 0 = true := by decide +kernel
def spS (S : St) (p : Nat) (a b c e f g h i : Int32) : St := ivSet (ivSet (ivSet (ivSet (ivSet (ivSet (ivSet (ivSet S 41 0 p a) 41 0 (p + 1) b) 41 0 (p + 2) c) 41 0 (p + 3) e) 41 0 (p + 4) f) 41 0 (p + 5) g) 41 0 (p + 6) h) 41 0 (p + 7) i
theorem sp_in {S : St} {p : Nat} {a b c e f g h i : Int32} : ∀ q, q < 8 → (spS S p a b c e f g h i).1 41 0 (p + q) = [a, b, c, e, f, g, h, i].getD q 0 := by
  intro q hq
  rcases (show q = 0 ∨ q = 1 ∨ q = 2 ∨ q = 3 ∨ q = 4 ∨ q = 5 ∨ q = 6 ∨ q = 7 by omega) with rfl | rfl | rfl | rfl | rfl | rfl | rfl | rfl <;> simp [spS, ivSet, up3]
theorem sp_out {S : St} {p : Nat} {a b c e f g h i : Int32} {j y k : Nat} (hn : ¬ (j = 41 ∧ y = 0 ∧ p ≤ k ∧ k < p + 8)) : (spS S p a b c e f g h i).1 j y k = S.1 j y k := by
  unfold spS
  rw [iv_ne (by omega), iv_ne (by omega), iv_ne (by omega), iv_ne (by omega), iv_ne (by omega), iv_ne (by omega), iv_ne (by omega), iv_ne (by omega)]
theorem n_spell {d p : Nat} {S : St} {K : KT} {a b c e f g h i : Int32} (hd : 1 ≤ d) (h1 : S.2.2.1 40 0 1 = true) (hp : p + 8 ≤ 960) (hK : K none (spS S p a b c e f g h i)) : Call d m_X6_spell [aR 40 0, aI (nI p), aI a, aI b, aI c, aI e, aI f, aI g, aI h, aI i] S K := by
  refine Call.of (k := 0) hd (fun e he P hP => ?_)
  have hN : True := trivial
  repeat (first | (refine hP _ _ _ _ _ _ ?_; show P _ _ _ _ _ _) | (refine hP _ _ _ _ _ _ (And.intro (hN _ _ _ rfl) ?_); show P _ _ (aR _ _ :: _) _ _ _))
  refine hP _ _ _ _ _ _ (And.intro h1 ?_)
  show P _ _ (aR 41 0 :: _) _ _ _
  repeat (first | (refine hP _ _ _ _ _ _ ?_; show P _ _ _ _ _ _) | (refine hP _ _ _ _ _ _ (And.intro (hN _ _ _ rfl) ?_); show P _ _ (aR _ _ :: _) _ _ _))
  refine hP _ _ _ _ _ _ (Exists.intro (p) (And.intro (And.intro (rfl) (by show p < 960; omega)) ?_))
  repeat (first | (refine hP _ _ _ _ _ _ ?_; show P _ _ _ _ _ _) | (refine hP _ _ _ _ _ _ (And.intro (hN _ _ _ rfl) ?_); show P _ _ (aR _ _ :: _) _ _ _))
  refine hP _ _ _ _ _ _ (And.intro h1 ?_)
  show P _ _ (aR 41 0 :: _) _ _ _
  repeat (first | (refine hP _ _ _ _ _ _ ?_; show P _ _ _ _ _ _) | (refine hP _ _ _ _ _ _ (And.intro (hN _ _ _ rfl) ?_); show P _ _ (aR _ _ :: _) _ _ _))
  refine hP _ _ _ _ _ _ (Exists.intro (p + 1) (And.intro (And.intro (nI_add p 1) (by show p + 1 < 960; omega)) ?_))
  repeat (first | (refine hP _ _ _ _ _ _ ?_; show P _ _ _ _ _ _) | (refine hP _ _ _ _ _ _ (And.intro (hN _ _ _ rfl) ?_); show P _ _ (aR _ _ :: _) _ _ _))
  refine hP _ _ _ _ _ _ (And.intro h1 ?_)
  show P _ _ (aR 41 0 :: _) _ _ _
  repeat (first | (refine hP _ _ _ _ _ _ ?_; show P _ _ _ _ _ _) | (refine hP _ _ _ _ _ _ (And.intro (hN _ _ _ rfl) ?_); show P _ _ (aR _ _ :: _) _ _ _))
  refine hP _ _ _ _ _ _ (Exists.intro (p + 2) (And.intro (And.intro (nI_add p 2) (by show p + 2 < 960; omega)) ?_))
  repeat (first | (refine hP _ _ _ _ _ _ ?_; show P _ _ _ _ _ _) | (refine hP _ _ _ _ _ _ (And.intro (hN _ _ _ rfl) ?_); show P _ _ (aR _ _ :: _) _ _ _))
  refine hP _ _ _ _ _ _ (And.intro h1 ?_)
  show P _ _ (aR 41 0 :: _) _ _ _
  repeat (first | (refine hP _ _ _ _ _ _ ?_; show P _ _ _ _ _ _) | (refine hP _ _ _ _ _ _ (And.intro (hN _ _ _ rfl) ?_); show P _ _ (aR _ _ :: _) _ _ _))
  refine hP _ _ _ _ _ _ (Exists.intro (p + 3) (And.intro (And.intro (nI_add p 3) (by show p + 3 < 960; omega)) ?_))
  repeat (first | (refine hP _ _ _ _ _ _ ?_; show P _ _ _ _ _ _) | (refine hP _ _ _ _ _ _ (And.intro (hN _ _ _ rfl) ?_); show P _ _ (aR _ _ :: _) _ _ _))
  refine hP _ _ _ _ _ _ (And.intro h1 ?_)
  show P _ _ (aR 41 0 :: _) _ _ _
  repeat (first | (refine hP _ _ _ _ _ _ ?_; show P _ _ _ _ _ _) | (refine hP _ _ _ _ _ _ (And.intro (hN _ _ _ rfl) ?_); show P _ _ (aR _ _ :: _) _ _ _))
  refine hP _ _ _ _ _ _ (Exists.intro (p + 4) (And.intro (And.intro (nI_add p 4) (by show p + 4 < 960; omega)) ?_))
  repeat (first | (refine hP _ _ _ _ _ _ ?_; show P _ _ _ _ _ _) | (refine hP _ _ _ _ _ _ (And.intro (hN _ _ _ rfl) ?_); show P _ _ (aR _ _ :: _) _ _ _))
  refine hP _ _ _ _ _ _ (And.intro h1 ?_)
  show P _ _ (aR 41 0 :: _) _ _ _
  repeat (first | (refine hP _ _ _ _ _ _ ?_; show P _ _ _ _ _ _) | (refine hP _ _ _ _ _ _ (And.intro (hN _ _ _ rfl) ?_); show P _ _ (aR _ _ :: _) _ _ _))
  refine hP _ _ _ _ _ _ (Exists.intro (p + 5) (And.intro (And.intro (nI_add p 5) (by show p + 5 < 960; omega)) ?_))
  repeat (first | (refine hP _ _ _ _ _ _ ?_; show P _ _ _ _ _ _) | (refine hP _ _ _ _ _ _ (And.intro (hN _ _ _ rfl) ?_); show P _ _ (aR _ _ :: _) _ _ _))
  refine hP _ _ _ _ _ _ (And.intro h1 ?_)
  show P _ _ (aR 41 0 :: _) _ _ _
  repeat (first | (refine hP _ _ _ _ _ _ ?_; show P _ _ _ _ _ _) | (refine hP _ _ _ _ _ _ (And.intro (hN _ _ _ rfl) ?_); show P _ _ (aR _ _ :: _) _ _ _))
  refine hP _ _ _ _ _ _ (Exists.intro (p + 6) (And.intro (And.intro (nI_add p 6) (by show p + 6 < 960; omega)) ?_))
  repeat (first | (refine hP _ _ _ _ _ _ ?_; show P _ _ _ _ _ _) | (refine hP _ _ _ _ _ _ (And.intro (hN _ _ _ rfl) ?_); show P _ _ (aR _ _ :: _) _ _ _))
  refine hP _ _ _ _ _ _ (And.intro h1 ?_)
  show P _ _ (aR 41 0 :: _) _ _ _
  repeat (first | (refine hP _ _ _ _ _ _ ?_; show P _ _ _ _ _ _) | (refine hP _ _ _ _ _ _ (And.intro (hN _ _ _ rfl) ?_); show P _ _ (aR _ _ :: _) _ _ _))
  refine hP _ _ _ _ _ _ (Exists.intro (p + 7) (And.intro (And.intro (nI_add p 7) (by show p + 7 < 960; omega)) ?_))
  repeat (first | (refine hP _ _ _ _ _ _ ?_; show P _ _ _ _ _ _) | (refine hP _ _ _ _ _ _ (And.intro (hN _ _ _ rfl) ?_); show P _ _ (aR _ _ :: _) _ _ _))
  exact hP _ _ _ _ _ _ (hK)
def tx0 : Tx := (32, fun k => [112, 97, 121, 115, 32, 49, 32, 59, 32, 119, 105, 108, 108, 115, 32, 49, 32, 59, 32, 98, 114, 101, 97, 116, 104, 32, 52, 32, 59, 32, 32, 32].getD k 0)
theorem tx0_ck : fine tx0 = true ∧ cdT tx0 = [1, 1, 4] ∧ (stT tx0 0 + (ptc tx0 0).2.1.length = 1 ∧ stT tx0 1 + (ptc tx0 1).2.1.length = 2 ∧ stT tx0 2 + (ptc tx0 2).2.1.length = 3) := by decide +kernel
def wMM : WW := fun j g _ => g = 0 ∧ 40 ≤ j ∧ j ≤ 58
/-- what the model holds at first -/
def ml0 (S : St) : Prop := NJ 40 0 S ∧ S.1 40 0 37 = -1 ∧ S.1 40 0 3 = 1 ∧ (∀ k, k < 26 → S.1 47 0 k = nI (setN k)) ∧ S.1 42 0 0 = nI 32 ∧ ∀ k, k < 32 → S.1 41 0 k = nI (tx0.2 k)
set_option maxHeartbeats 4000000 in
theorem q_Model_init {d : Nat} {S : St} {K : KT} (hd : 10 ≤ d) (hc : S.2.2.2.2 = 59) (h : ∀ S', Ev wMM S S' → S'.2.2.2.2 = 77 → ml0 S' → K none S') : Call d m_X6_init [aR 40 0] S K := by
  refine Call.of (k := 9) hd (fun e he P hP => ?_)
  have hN : True := trivial
  repeat (first | (refine hP _ _ _ _ _ _ ?_; show P _ _ _ _ _ _) | (refine hP _ _ _ _ _ _ (And.intro (hN _ _ _ rfl) ?_); show P _ _ (aR _ _ :: _) _ _ _))
  refine hP _ _ _ _ _ _ (Exists.intro 41 (Exists.intro 0 (Exists.intro 960 ⟨rfl, by omega, by show idOf (S.2.2.2.2) = _; rw [hc]; rfl, by omega, rfl, Or.inr rfl, (by show 0 + 1 ≤ 18; omega), (by show 0 + 960 ≤ 1606; omega), ?_⟩)))
  repeat (first | (refine hP _ _ _ _ _ _ ?_; show P _ _ _ _ _ _) | (refine hP _ _ _ _ _ _ (And.intro (hN _ _ _ rfl) ?_); show P _ _ (aR _ _ :: _) _ _ _))
  refine hP _ _ _ _ _ _ (And.intro rfl ?_)
  repeat (first | (refine hP _ _ _ _ _ _ ?_; show P _ _ _ _ _ _) | (refine hP _ _ _ _ _ _ (And.intro (hN _ _ _ rfl) ?_); show P _ _ (aR _ _ :: _) _ _ _))
  refine hP _ _ _ _ _ _ (Exists.intro 42 (Exists.intro 0 (Exists.intro 6 ⟨rfl, by omega, by show idOf (S.2.2.2.2 + 1) = _; rw [hc]; rfl, by omega, rfl, Or.inr rfl, (by show 1 + 1 ≤ 18; omega), (by show 960 + 6 ≤ 1606; omega), ?_⟩)))
  repeat (first | (refine hP _ _ _ _ _ _ ?_; show P _ _ _ _ _ _) | (refine hP _ _ _ _ _ _ (And.intro (hN _ _ _ rfl) ?_); show P _ _ (aR _ _ :: _) _ _ _))
  refine hP _ _ _ _ _ _ (And.intro rfl ?_)
  repeat (first | (refine hP _ _ _ _ _ _ ?_; show P _ _ _ _ _ _) | (refine hP _ _ _ _ _ _ (And.intro (hN _ _ _ rfl) ?_); show P _ _ (aR _ _ :: _) _ _ _))
  refine hP _ _ _ _ _ _ (Exists.intro 43 (Exists.intro 0 (Exists.intro 160 ⟨rfl, by omega, by show idOf (S.2.2.2.2 + 1 + 1) = _; rw [hc]; rfl, by omega, rfl, Or.inr rfl, (by show 2 + 1 ≤ 18; omega), (by show 966 + 160 ≤ 1606; omega), ?_⟩)))
  repeat (first | (refine hP _ _ _ _ _ _ ?_; show P _ _ _ _ _ _) | (refine hP _ _ _ _ _ _ (And.intro (hN _ _ _ rfl) ?_); show P _ _ (aR _ _ :: _) _ _ _))
  refine hP _ _ _ _ _ _ (And.intro rfl ?_)
  repeat (first | (refine hP _ _ _ _ _ _ ?_; show P _ _ _ _ _ _) | (refine hP _ _ _ _ _ _ (And.intro (hN _ _ _ rfl) ?_); show P _ _ (aR _ _ :: _) _ _ _))
  refine hP _ _ _ _ _ _ (Exists.intro 44 (Exists.intro 0 (Exists.intro 5 ⟨rfl, by omega, by show idOf (S.2.2.2.2 + 1 + 1 + 1) = _; rw [hc]; rfl, by omega, rfl, Or.inr rfl, (by show 3 + 1 ≤ 18; omega), (by show 1126 + 5 ≤ 1606; omega), ?_⟩)))
  repeat (first | (refine hP _ _ _ _ _ _ ?_; show P _ _ _ _ _ _) | (refine hP _ _ _ _ _ _ (And.intro (hN _ _ _ rfl) ?_); show P _ _ (aR _ _ :: _) _ _ _))
  refine hP _ _ _ _ _ _ (And.intro rfl ?_)
  repeat (first | (refine hP _ _ _ _ _ _ ?_; show P _ _ _ _ _ _) | (refine hP _ _ _ _ _ _ (And.intro (hN _ _ _ rfl) ?_); show P _ _ (aR _ _ :: _) _ _ _))
  refine hP _ _ _ _ _ _ (Exists.intro 45 (Exists.intro 0 (Exists.intro 10 ⟨rfl, by omega, by show idOf (S.2.2.2.2 + 1 + 1 + 1 + 1) = _; rw [hc]; rfl, by omega, rfl, Or.inr rfl, (by show 4 + 1 ≤ 18; omega), (by show 1131 + 10 ≤ 1606; omega), ?_⟩)))
  repeat (first | (refine hP _ _ _ _ _ _ ?_; show P _ _ _ _ _ _) | (refine hP _ _ _ _ _ _ (And.intro (hN _ _ _ rfl) ?_); show P _ _ (aR _ _ :: _) _ _ _))
  refine hP _ _ _ _ _ _ (And.intro rfl ?_)
  repeat (first | (refine hP _ _ _ _ _ _ ?_; show P _ _ _ _ _ _) | (refine hP _ _ _ _ _ _ (And.intro (hN _ _ _ rfl) ?_); show P _ _ (aR _ _ :: _) _ _ _))
  refine hP _ _ _ _ _ _ (Exists.intro 46 (Exists.intro 0 (Exists.intro 25 ⟨rfl, by omega, by show idOf (S.2.2.2.2 + 1 + 1 + 1 + 1 + 1) = _; rw [hc]; rfl, by omega, rfl, Or.inr rfl, (by show 5 + 1 ≤ 18; omega), (by show 1141 + 25 ≤ 1606; omega), ?_⟩)))
  repeat (first | (refine hP _ _ _ _ _ _ ?_; show P _ _ _ _ _ _) | (refine hP _ _ _ _ _ _ (And.intro (hN _ _ _ rfl) ?_); show P _ _ (aR _ _ :: _) _ _ _))
  refine hP _ _ _ _ _ _ (And.intro rfl ?_)
  repeat (first | (refine hP _ _ _ _ _ _ ?_; show P _ _ _ _ _ _) | (refine hP _ _ _ _ _ _ (And.intro (hN _ _ _ rfl) ?_); show P _ _ (aR _ _ :: _) _ _ _))
  refine hP _ _ _ _ _ _ (Exists.intro 47 (Exists.intro 0 (Exists.intro 26 ⟨rfl, by omega, by show idOf (S.2.2.2.2 + 1 + 1 + 1 + 1 + 1 + 1) = _; rw [hc]; rfl, by omega, rfl, Or.inr rfl, (by show 6 + 1 ≤ 18; omega), (by show 1166 + 26 ≤ 1606; omega), ?_⟩)))
  repeat (first | (refine hP _ _ _ _ _ _ ?_; show P _ _ _ _ _ _) | (refine hP _ _ _ _ _ _ (And.intro (hN _ _ _ rfl) ?_); show P _ _ (aR _ _ :: _) _ _ _))
  refine hP _ _ _ _ _ _ (And.intro rfl ?_)
  repeat (first | (refine hP _ _ _ _ _ _ ?_; show P _ _ _ _ _ _) | (refine hP _ _ _ _ _ _ (And.intro (hN _ _ _ rfl) ?_); show P _ _ (aR _ _ :: _) _ _ _))
  refine hP _ _ _ _ _ _ (Exists.intro 48 (Exists.intro 0 (Exists.intro 5 ⟨rfl, by omega, by show idOf (S.2.2.2.2 + 1 + 1 + 1 + 1 + 1 + 1 + 1) = _; rw [hc]; rfl, by omega, rfl, Or.inr rfl, (by show 7 + 1 ≤ 18; omega), (by show 1192 + 5 ≤ 1606; omega), ?_⟩)))
  repeat (first | (refine hP _ _ _ _ _ _ ?_; show P _ _ _ _ _ _) | (refine hP _ _ _ _ _ _ (And.intro (hN _ _ _ rfl) ?_); show P _ _ (aR _ _ :: _) _ _ _))
  refine hP _ _ _ _ _ _ (And.intro rfl ?_)
  repeat (first | (refine hP _ _ _ _ _ _ ?_; show P _ _ _ _ _ _) | (refine hP _ _ _ _ _ _ (And.intro (hN _ _ _ rfl) ?_); show P _ _ (aR _ _ :: _) _ _ _))
  refine hP _ _ _ _ _ _ (Exists.intro 49 (Exists.intro 0 (Exists.intro 37 ⟨rfl, by omega, by show idOf (S.2.2.2.2 + 1 + 1 + 1 + 1 + 1 + 1 + 1 + 1) = _; rw [hc]; rfl, by omega, rfl, Or.inr rfl, (by show 8 + 1 ≤ 18; omega), (by show 1197 + 37 ≤ 1606; omega), ?_⟩)))
  repeat (first | (refine hP _ _ _ _ _ _ ?_; show P _ _ _ _ _ _) | (refine hP _ _ _ _ _ _ (And.intro (hN _ _ _ rfl) ?_); show P _ _ (aR _ _ :: _) _ _ _))
  refine hP _ _ _ _ _ _ (And.intro rfl ?_)
  repeat (first | (refine hP _ _ _ _ _ _ ?_; show P _ _ _ _ _ _) | (refine hP _ _ _ _ _ _ (And.intro (hN _ _ _ rfl) ?_); show P _ _ (aR _ _ :: _) _ _ _))
  refine hP _ _ _ _ _ _ (Exists.intro 50 (Exists.intro 0 (Exists.intro 100 ⟨rfl, by omega, by show idOf (S.2.2.2.2 + 1 + 1 + 1 + 1 + 1 + 1 + 1 + 1 + 1) = _; rw [hc]; rfl, by omega, rfl, Or.inr rfl, (by show 9 + 1 ≤ 18; omega), (by show 1234 + 100 ≤ 1606; omega), ?_⟩)))
  repeat (first | (refine hP _ _ _ _ _ _ ?_; show P _ _ _ _ _ _) | (refine hP _ _ _ _ _ _ (And.intro (hN _ _ _ rfl) ?_); show P _ _ (aR _ _ :: _) _ _ _))
  refine hP _ _ _ _ _ _ (And.intro rfl ?_)
  repeat (first | (refine hP _ _ _ _ _ _ ?_; show P _ _ _ _ _ _) | (refine hP _ _ _ _ _ _ (And.intro (hN _ _ _ rfl) ?_); show P _ _ (aR _ _ :: _) _ _ _))
  refine hP _ _ _ _ _ _ (Exists.intro 51 (Exists.intro 0 (Exists.intro 40 ⟨rfl, by omega, by show idOf (S.2.2.2.2 + 1 + 1 + 1 + 1 + 1 + 1 + 1 + 1 + 1 + 1) = _; rw [hc]; rfl, by omega, rfl, Or.inr rfl, (by show 10 + 1 ≤ 18; omega), (by show 1334 + 40 ≤ 1606; omega), ?_⟩)))
  repeat (first | (refine hP _ _ _ _ _ _ ?_; show P _ _ _ _ _ _) | (refine hP _ _ _ _ _ _ (And.intro (hN _ _ _ rfl) ?_); show P _ _ (aR _ _ :: _) _ _ _))
  refine hP _ _ _ _ _ _ (And.intro rfl ?_)
  repeat (first | (refine hP _ _ _ _ _ _ ?_; show P _ _ _ _ _ _) | (refine hP _ _ _ _ _ _ (And.intro (hN _ _ _ rfl) ?_); show P _ _ (aR _ _ :: _) _ _ _))
  refine hP _ _ _ _ _ _ (Exists.intro 52 (Exists.intro 0 (Exists.intro 25 ⟨rfl, by omega, by show idOf (S.2.2.2.2 + 1 + 1 + 1 + 1 + 1 + 1 + 1 + 1 + 1 + 1 + 1) = _; rw [hc]; rfl, by omega, rfl, Or.inr rfl, (by show 11 + 1 ≤ 18; omega), (by show 1374 + 25 ≤ 1606; omega), ?_⟩)))
  repeat (first | (refine hP _ _ _ _ _ _ ?_; show P _ _ _ _ _ _) | (refine hP _ _ _ _ _ _ (And.intro (hN _ _ _ rfl) ?_); show P _ _ (aR _ _ :: _) _ _ _))
  refine hP _ _ _ _ _ _ (And.intro rfl ?_)
  repeat (first | (refine hP _ _ _ _ _ _ ?_; show P _ _ _ _ _ _) | (refine hP _ _ _ _ _ _ (And.intro (hN _ _ _ rfl) ?_); show P _ _ (aR _ _ :: _) _ _ _))
  refine hP _ _ _ _ _ _ (Exists.intro 53 (Exists.intro 0 (Exists.intro 25 ⟨rfl, by omega, by show idOf (S.2.2.2.2 + 1 + 1 + 1 + 1 + 1 + 1 + 1 + 1 + 1 + 1 + 1 + 1) = _; rw [hc]; rfl, by omega, rfl, Or.inr rfl, (by show 12 + 1 ≤ 18; omega), (by show 1399 + 25 ≤ 1606; omega), ?_⟩)))
  repeat (first | (refine hP _ _ _ _ _ _ ?_; show P _ _ _ _ _ _) | (refine hP _ _ _ _ _ _ (And.intro (hN _ _ _ rfl) ?_); show P _ _ (aR _ _ :: _) _ _ _))
  refine hP _ _ _ _ _ _ (And.intro rfl ?_)
  repeat (first | (refine hP _ _ _ _ _ _ ?_; show P _ _ _ _ _ _) | (refine hP _ _ _ _ _ _ (And.intro (hN _ _ _ rfl) ?_); show P _ _ (aR _ _ :: _) _ _ _))
  refine hP _ _ _ _ _ _ (Exists.intro 54 (Exists.intro 0 (Exists.intro 10 ⟨rfl, by omega, by show idOf (S.2.2.2.2 + 1 + 1 + 1 + 1 + 1 + 1 + 1 + 1 + 1 + 1 + 1 + 1 + 1) = _; rw [hc]; rfl, by omega, rfl, Or.inr rfl, (by show 13 + 1 ≤ 18; omega), (by show 1424 + 10 ≤ 1606; omega), ?_⟩)))
  repeat (first | (refine hP _ _ _ _ _ _ ?_; show P _ _ _ _ _ _) | (refine hP _ _ _ _ _ _ (And.intro (hN _ _ _ rfl) ?_); show P _ _ (aR _ _ :: _) _ _ _))
  refine hP _ _ _ _ _ _ (And.intro rfl ?_)
  repeat (first | (refine hP _ _ _ _ _ _ ?_; show P _ _ _ _ _ _) | (refine hP _ _ _ _ _ _ (And.intro (hN _ _ _ rfl) ?_); show P _ _ (aR _ _ :: _) _ _ _))
  repeat (first | (refine hP _ _ _ _ _ _ ?_; show P _ _ _ _ _ _) | (refine hP _ _ _ _ _ _ (And.intro (hN _ _ _ rfl) ?_); show P _ _ (aR _ _ :: _) _ _ _))
  refine hP _ _ _ _ _ _ (Exists.intro 55 (Exists.intro 0 (Exists.intro 4 ⟨rfl, by omega, by show idOf (S.2.2.2.2 + 1 + 1 + 1 + 1 + 1 + 1 + 1 + 1 + 1 + 1 + 1 + 1 + 1 + 1) = _; rw [hc]; rfl, rfl, rfl, (by show 14 + 1 ≤ 18; omega), (by show 1434 + 4 ≤ 1606; omega), ?_⟩)))
  repeat (first | (refine hP _ _ _ _ _ _ ?_; show P _ _ _ _ _ _) | (refine hP _ _ _ _ _ _ (And.intro (hN _ _ _ rfl) ?_); show P _ _ (aR _ _ :: _) _ _ _))
  refine hP _ _ _ _ _ _ (And.intro rfl ?_)
  repeat (first | (refine hP _ _ _ _ _ _ ?_; show P _ _ _ _ _ _) | (refine hP _ _ _ _ _ _ (And.intro (hN _ _ _ rfl) ?_); show P _ _ (aR _ _ :: _) _ _ _))
  refine hP _ _ _ _ _ _ (Exists.intro 56 (Exists.intro 0 (Exists.intro 4 ⟨rfl, by omega, by show idOf (S.2.2.2.2 + 1 + 1 + 1 + 1 + 1 + 1 + 1 + 1 + 1 + 1 + 1 + 1 + 1 + 1 + 1) = _; rw [hc]; rfl, by omega, rfl, Or.inr rfl, (by show 15 + 1 ≤ 18; omega), (by show 1438 + 4 ≤ 1606; omega), ?_⟩)))
  repeat (first | (refine hP _ _ _ _ _ _ ?_; show P _ _ _ _ _ _) | (refine hP _ _ _ _ _ _ (And.intro (hN _ _ _ rfl) ?_); show P _ _ (aR _ _ :: _) _ _ _))
  refine hP _ _ _ _ _ _ (And.intro rfl ?_)
  repeat (first | (refine hP _ _ _ _ _ _ ?_; show P _ _ _ _ _ _) | (refine hP _ _ _ _ _ _ (And.intro (hN _ _ _ rfl) ?_); show P _ _ (aR _ _ :: _) _ _ _))
  refine hP _ _ _ _ _ _ (Exists.intro 57 (Exists.intro 0 (Exists.intro 4 ⟨rfl, by omega, by show idOf (S.2.2.2.2 + 1 + 1 + 1 + 1 + 1 + 1 + 1 + 1 + 1 + 1 + 1 + 1 + 1 + 1 + 1 + 1) = _; rw [hc]; rfl, by omega, rfl, Or.inr rfl, (by show 16 + 1 ≤ 18; omega), (by show 1442 + 4 ≤ 1606; omega), ?_⟩)))
  repeat (first | (refine hP _ _ _ _ _ _ ?_; show P _ _ _ _ _ _) | (refine hP _ _ _ _ _ _ (And.intro (hN _ _ _ rfl) ?_); show P _ _ (aR _ _ :: _) _ _ _))
  refine hP _ _ _ _ _ _ (And.intro rfl ?_)
  repeat (first | (refine hP _ _ _ _ _ _ ?_; show P _ _ _ _ _ _) | (refine hP _ _ _ _ _ _ (And.intro (hN _ _ _ rfl) ?_); show P _ _ (aR _ _ :: _) _ _ _))
  refine hP _ _ _ _ _ _ (Exists.intro 58 (Exists.intro 0 (Exists.intro 160 ⟨rfl, by omega, by show idOf (S.2.2.2.2 + 1 + 1 + 1 + 1 + 1 + 1 + 1 + 1 + 1 + 1 + 1 + 1 + 1 + 1 + 1 + 1 + 1) = _; rw [hc]; rfl, by omega, rfl, Or.inr rfl, (by show 17 + 1 ≤ 18; omega), (by show 1446 + 160 ≤ 1606; omega), ?_⟩)))
  repeat (first | (refine hP _ _ _ _ _ _ ?_; show P _ _ _ _ _ _) | (refine hP _ _ _ _ _ _ (And.intro (hN _ _ _ rfl) ?_); show P _ _ (aR _ _ :: _) _ _ _))
  refine hP _ _ _ _ _ _ (And.intro rfl ?_)
  have e1 : Ev wMM S (nnSet (mkC (nnSet (mkC (nnSet (mkC (nnSet (mkC (ivSet (nnSet (mkC (nnSet (mkC (nnSet (mkC (nnSet (mkC (nnSet (mkC (nnSet (mkC (nnSet (mkC (nnSet (mkC (nnSet (mkC (nnSet (mkC (nnSet (mkC (nnSet (mkC (nnSet (mkC (nnSet (mkC S 41 0 960) 40 0 1) 42 0 6) 40 0 2) 43 0 160) 40 0 5) 44 0 5) 40 0 9) 45 0 10) 40 0 10) 46 0 25) 40 0 11) 47 0 26) 40 0 13) 48 0 5) 40 0 30) 49 0 37) 40 0 31) 50 0 100) 40 0 32) 51 0 40) 40 0 33) 52 0 25) 40 0 34) 53 0 25) 40 0 35) 54 0 10) 40 0 36) 40 0 37 (-1)) 55 0 4) 40 0 41) 56 0 4) 40 0 42) 57 0 4) 40 0 43) 58 0 160) 40 0 44) := by repeat (first | exact Ev.rf | refine Ev.nn ?_ | refine Ev.mk (fun _ => by simp [wMM]) ?_ | refine Ev.iv (by simp [wMM]) (Or.inl (by simp [nzW])) ?_)
  have j1 : NJ 40 0 (nnSet (mkC (nnSet (mkC (nnSet (mkC (nnSet (mkC (ivSet (nnSet (mkC (nnSet (mkC (nnSet (mkC (nnSet (mkC (nnSet (mkC (nnSet (mkC (nnSet (mkC (nnSet (mkC (nnSet (mkC (nnSet (mkC (nnSet (mkC (nnSet (mkC (nnSet (mkC (nnSet (mkC S 41 0 960) 40 0 1) 42 0 6) 40 0 2) 43 0 160) 40 0 5) 44 0 5) 40 0 9) 45 0 10) 40 0 10) 46 0 25) 40 0 11) 47 0 26) 40 0 13) 48 0 5) 40 0 30) 49 0 37) 40 0 31) 50 0 100) 40 0 32) 51 0 40) 40 0 33) 52 0 25) 40 0 34) 53 0 25) 40 0 35) 54 0 10) 40 0 36) 40 0 37 (-1)) 55 0 4) 40 0 41) 56 0 4) 40 0 42) 57 0 4) 40 0 43) 58 0 160) 40 0 44) := fun k hk => by rcases nnr40 k hk with rfl | rfl | rfl | rfl | rfl | rfl | rfl | rfl | rfl | rfl | rfl | rfl | rfl | rfl | rfl | rfl | rfl | rfl <;> simp [ivSet, nnSet, mkC, up3, zr3]
  have m1 : (nnSet (mkC (nnSet (mkC (nnSet (mkC (nnSet (mkC (ivSet (nnSet (mkC (nnSet (mkC (nnSet (mkC (nnSet (mkC (nnSet (mkC (nnSet (mkC (nnSet (mkC (nnSet (mkC (nnSet (mkC (nnSet (mkC (nnSet (mkC (nnSet (mkC (nnSet (mkC (nnSet (mkC S 41 0 960) 40 0 1) 42 0 6) 40 0 2) 43 0 160) 40 0 5) 44 0 5) 40 0 9) 45 0 10) 40 0 10) 46 0 25) 40 0 11) 47 0 26) 40 0 13) 48 0 5) 40 0 30) 49 0 37) 40 0 31) 50 0 100) 40 0 32) 51 0 40) 40 0 33) 52 0 25) 40 0 34) 53 0 25) 40 0 35) 54 0 10) 40 0 36) 40 0 37 (-1)) 55 0 4) 40 0 41) 56 0 4) 40 0 42) 57 0 4) 40 0 43) 58 0 160) 40 0 44).1 40 0 37 = -1 := by simp [ivSet, nnSet, mkC, up3, zr3]
  have c1 : (nnSet (mkC (nnSet (mkC (nnSet (mkC (nnSet (mkC (ivSet (nnSet (mkC (nnSet (mkC (nnSet (mkC (nnSet (mkC (nnSet (mkC (nnSet (mkC (nnSet (mkC (nnSet (mkC (nnSet (mkC (nnSet (mkC (nnSet (mkC (nnSet (mkC (nnSet (mkC (nnSet (mkC S 41 0 960) 40 0 1) 42 0 6) 40 0 2) 43 0 160) 40 0 5) 44 0 5) 40 0 9) 45 0 10) 40 0 10) 46 0 25) 40 0 11) 47 0 26) 40 0 13) 48 0 5) 40 0 30) 49 0 37) 40 0 31) 50 0 100) 40 0 32) 51 0 40) 40 0 33) 52 0 25) 40 0 34) 53 0 25) 40 0 35) 54 0 10) 40 0 36) 40 0 37 (-1)) 55 0 4) 40 0 41) 56 0 4) 40 0 42) 57 0 4) 40 0 43) 58 0 160) 40 0 44).2.2.2.2 = 77 := by show S.2.2.2.2 + 1 + 1 + 1 + 1 + 1 + 1 + 1 + 1 + 1 + 1 + 1 + 1 + 1 + 1 + 1 + 1 + 1 + 1 = 77; rw [hc]
  repeat (first | (refine hP _ _ _ _ _ _ ?_; show P _ _ _ _ _ _) | (refine hP _ _ _ _ _ _ (And.intro (hN _ _ _ rfl) ?_); show P _ _ (aR _ _ :: _) _ _ _))
  generalize (nnSet (mkC (nnSet (mkC (nnSet (mkC (nnSet (mkC (ivSet (nnSet (mkC (nnSet (mkC (nnSet (mkC (nnSet (mkC (nnSet (mkC (nnSet (mkC (nnSet (mkC (nnSet (mkC (nnSet (mkC (nnSet (mkC (nnSet (mkC (nnSet (mkC (nnSet (mkC (nnSet (mkC S 41 0 960) 40 0 1) 42 0 6) 40 0 2) 43 0 160) 40 0 5) 44 0 5) 40 0 9) 45 0 10) 40 0 10) 46 0 25) 40 0 11) 47 0 26) 40 0 13) 48 0 5) 40 0 30) 49 0 37) 40 0 31) 50 0 100) 40 0 32) 51 0 40) 40 0 33) 52 0 25) 40 0 34) 53 0 25) 40 0 35) 54 0 10) 40 0 36) 40 0 37 (-1)) 55 0 4) 40 0 41) 56 0 4) 40 0 42) 57 0 4) 40 0 43) 58 0 160) 40 0 44) = S1 at e1 j1 m1 c1 ⊢
  have w47 : ∀ j g k, (fun j g _ => j = 47 ∧ g = 0 : WW) j g k → wMM j g k := fun j g k z => by simp only [wMM]; omega
  have fin : ∀ S2, Ev (fun j g _ => j = 47 ∧ g = 0) S1 S2 → S2.2.2 = S1.2.2 → (∀ j, j < 26 → S2.1 47 0 j = nI (setN j)) → ∀ x1 x2, P 185 [some (aR 40 0), x1, x2] [] S2 18 1606 := by
    intro S2 e2 t2 a2 x1 x2
    have j2 : NJ 40 0 S2 := j1.ev e2 (fun k => by simp)
    repeat (first | (refine hP _ _ _ _ _ _ ?_; show P _ _ _ _ _ _) | (refine hP _ _ _ _ _ _ (And.intro (hN _ _ _ rfl) ?_); show P _ _ (aR _ _ :: _) _ _ _))
    refine hP _ _ _ _ _ _ (n_spell (p := 0) (by omega) (j2 1 rfl) (by omega) ?_)
    repeat (first | (refine hP _ _ _ _ _ _ ?_; show P _ _ _ _ _ _) | (refine hP _ _ _ _ _ _ (And.intro (hN _ _ _ rfl) ?_); show P _ _ (aR _ _ :: _) _ _ _))
    refine hP _ _ _ _ _ _ (n_spell (p := 8) (by omega) (j2 1 rfl) (by omega) ?_)
    repeat (first | (refine hP _ _ _ _ _ _ ?_; show P _ _ _ _ _ _) | (refine hP _ _ _ _ _ _ (And.intro (hN _ _ _ rfl) ?_); show P _ _ (aR _ _ :: _) _ _ _))
    refine hP _ _ _ _ _ _ (n_spell (p := 16) (by omega) (j2 1 rfl) (by omega) ?_)
    repeat (first | (refine hP _ _ _ _ _ _ ?_; show P _ _ _ _ _ _) | (refine hP _ _ _ _ _ _ (And.intro (hN _ _ _ rfl) ?_); show P _ _ (aR _ _ :: _) _ _ _))
    refine hP _ _ _ _ _ _ (n_spell (p := 24) (by omega) (j2 1 rfl) (by omega) ?_)
    repeat (first | (refine hP _ _ _ _ _ _ ?_; show P _ _ _ _ _ _) | (refine hP _ _ _ _ _ _ (And.intro (hN _ _ _ rfl) ?_); show P _ _ (aR _ _ :: _) _ _ _))
    refine hP _ _ _ _ _ _ (And.intro (j2 2 rfl) ?_)
    show P _ _ (aR 42 0 :: _) _ _ _
    repeat (first | (refine hP _ _ _ _ _ _ ?_; show P _ _ _ _ _ _) | (refine hP _ _ _ _ _ _ (And.intro (hN _ _ _ rfl) ?_); show P _ _ (aR _ _ :: _) _ _ _))
    refine hP _ _ _ _ _ _ (Exists.intro (0) (And.intro (And.intro (rfl) (by show 0 < 6; omega)) ?_))
    repeat (first | (refine hP _ _ _ _ _ _ ?_; show P _ _ _ _ _ _) | (refine hP _ _ _ _ _ _ (And.intro (hN _ _ _ rfl) ?_); show P _ _ (aR _ _ :: _) _ _ _))
    have e3 : Ev (fun j g _ => (j = 41 ∨ j = 42 ∨ j = 40) ∧ g = 0) S2 (ivSet (ivSet (spS (spS (spS (spS S2 0 112 97 121 115 32 49 32 59) 8 32 119 105 108 108 115 32 49) 16 32 59 32 98 114 101 97 116) 24 104 32 52 32 59 32 32 32) 42 0 0 32) 40 0 3 1) := by
      unfold spS
      repeat (first | exact Ev.rf | refine Ev.iv (by simp) (Or.inl (by simp [nzW])) ?_)
    refine hP _ _ _ _ _ _ (h (ivSet (ivSet (spS (spS (spS (spS S2 0 112 97 121 115 32 49 32 59) 8 32 119 105 108 108 115 32 49) 16 32 59 32 98 114 101 97 116) 24 104 32 52 32 59 32 32 32) 42 0 0 32) 40 0 3 1) ((e1.tr (e2.mono w47)).tr (e3.mono (fun j g k z => by simp only [wMM]; omega))) (by show S2.2.2.2.2 = 77; rw [t2]; exact c1) ⟨j2, ?_, ?_, fun k hk => ?_, ?_, fun k hk => ?_⟩)
    · rw [iv_ne (by omega), iv_ne (by omega), sp_out (by omega), sp_out (by omega), sp_out (by omega), sp_out (by omega), (e2.1 40 0 37 (by simp)).1]
      exact m1
    · rw [iv_at]
    · rw [iv_ne (by omega), iv_ne (by omega), sp_out (by omega), sp_out (by omega), sp_out (by omega), sp_out (by omega)]
      exact a2 k hk
    · rw [iv_ne (by omega), iv_at]
      rfl
    · rw [iv_ne (by omega), iv_ne (by omega)]
      rcases (show k < 8 ∨ (8 ≤ k ∧ k < 16) ∨ (16 ≤ k ∧ k < 24) ∨ (24 ≤ k ∧ k < 32) by omega) with z | ⟨z, y⟩ | ⟨z, y⟩ | ⟨z, y⟩
      · rw [sp_out (by omega), sp_out (by omega), sp_out (by omega)]
        have := sp_in (S := S2) (p := 0) (a := 112) (b := 97) (c := 121) (e := 115) (f := 32) (g := 49) (h := 32) (i := 59) k z
        rw [Nat.zero_add] at this
        rw [this]
        exact (by decide : ∀ q, q < 8 → ([112, 97, 121, 115, 32, 49, 32, 59] : List Int32).getD q 0 = nI (tx0.2 q)) k z
      · obtain ⟨q, rfl⟩ : ∃ q, k = 8 + q := ⟨k - 8, by omega⟩
        rw [sp_out (by omega), sp_out (by omega), sp_in q (by omega)]
        exact (by decide : ∀ q, q < 8 → ([32, 119, 105, 108, 108, 115, 32, 49] : List Int32).getD q 0 = nI (tx0.2 (8 + q))) q (by omega)
      · obtain ⟨q, rfl⟩ : ∃ q, k = 16 + q := ⟨k - 16, by omega⟩
        rw [sp_out (by omega), sp_in q (by omega)]
        exact (by decide : ∀ q, q < 8 → ([32, 59, 32, 98, 114, 101, 97, 116] : List Int32).getD q 0 = nI (tx0.2 (16 + q))) q (by omega)
      · obtain ⟨q, rfl⟩ : ∃ q, k = 24 + q := ⟨k - 24, by omega⟩
        rw [sp_in q (by omega)]
        exact (by decide : ∀ q, q < 8 → ([104, 32, 52, 32, 59, 32, 32, 32] : List Int32).getD q 0 = nI (tx0.2 (24 + q))) q (by omega)
  have loop : ∀ m t n S2, t + m = 1024 → n ≤ 26 → apCk m t n = true → Ev (fun j g _ => j = 47 ∧ g = 0) S1 S2 → S2.2.2 = S1.2.2 → (∀ j, j < n → S2.1 47 0 j = nI (setN j)) → P 159 [some (aR 40 0), some (aI (nI n)), some (aI (nI t))] [aI 1024, aI (nI t)] S2 18 1606 := by
    intro m
    induction m with
    | zero =>
      intro t n S2 ht hn hk e2 t2 a2
      have hk : Nat.beq n 26 = true := hk
      have hk := Nat.eq_of_beq_eq_true hk
      subst hk
      have fin := fin S2 e2 t2 a2 (some (aI (nI 26))) (some (aI (nI t)))
      refine hP _ _ _ _ _ _ (And.intro (fun _ => ?_) (fun hc => absurd (nI_le (a := 1024) (b := t) (by omega) (by omega)) hc))
      exact fin
    | succ m ih =>
      intro t n S2 ht hn hk e2 t2 a2
      have hk : (bif apB t then (Nat.blt n 26 && Nat.beq (setN n) t) && apCk m (t + 1) (n + 1) else apCk m (t + 1) n) = true := hk
      refine hP _ _ _ _ _ _ (And.intro (fun hc => absurd hc (nI_ge (a := t) (b := 1024) (by omega) (by omega))) (fun _ => ?_))
      repeat (first | (refine hP _ _ _ _ _ _ ?_; show P _ _ _ _ _ _) | (refine hP _ _ _ _ _ _ (And.intro (hN _ _ _ rfl) ?_); show P _ _ (aR _ _ :: _) _ _ _))
      refine hP _ _ _ _ _ _ (n_isApart (by omega) ?_)
      rw [show apL (nI t) 10 0 = apB t from rfl]
      cases hf : apB t with
      | false =>
        rw [hf] at hk
        have := ih (t + 1) n S2 (by omega) hn hk e2 t2 a2
        rw [nI_succ t] at this
        repeat (first | (refine hP _ _ _ _ _ _ ?_; show P _ _ _ _ _ _) | (refine hP _ _ _ _ _ _ (And.intro (hN _ _ _ rfl) ?_); show P _ _ (aR _ _ :: _) _ _ _) | refine hP _ _ _ _ _ _ (And.intro (fun _ => ?_) (fun hc => absurd hc (by decide))) | refine hP _ _ _ _ _ _ (And.intro (fun hc => absurd hc (by decide)) (fun _ => ?_)))
        exact this
      | true =>
        rw [hf] at hk
        have hk : ((Nat.blt n 26 && Nat.beq (setN n) t) && apCk m (t + 1) (n + 1)) = true := hk
        simp only [Bool.and_eq_true] at hk
        obtain ⟨⟨k1, k2⟩, k3⟩ := hk
        have k1 : n < 26 := by simpa [Nat.blt_eq] using k1
        have k2 := Nat.eq_of_beq_eq_true k2
        have j2 : NJ 40 0 S2 := j1.ev e2 (fun k => by simp)
        have := ih (t + 1) (n + 1) (ivSet S2 47 0 n (nI t)) (by omega) (by omega) k3 (Ev.iv (by simp) (Or.inl (by simp [nzW])) e2) t2 (fun j hj => by
          by_cases e : j = n
          · rw [e, iv_at, k2]
          · rw [iv_ne (by omega)]
            exact a2 j (by omega))
        rw [nI_succ t, nI_succ n] at this
        repeat (first | (refine hP _ _ _ _ _ _ ?_; show P _ _ _ _ _ _) | (refine hP _ _ _ _ _ _ (And.intro (hN _ _ _ rfl) ?_); show P _ _ (aR _ _ :: _) _ _ _) | refine hP _ _ _ _ _ _ (And.intro (fun _ => ?_) (fun hc => absurd hc (by decide))) | refine hP _ _ _ _ _ _ (And.intro (fun hc => absurd hc (by decide)) (fun _ => ?_)))
        refine hP _ _ _ _ _ _ (And.intro (j2 13 rfl) ?_)
        show P _ _ (aR 47 0 :: _) _ _ _
        repeat (first | (refine hP _ _ _ _ _ _ ?_; show P _ _ _ _ _ _) | (refine hP _ _ _ _ _ _ (And.intro (hN _ _ _ rfl) ?_); show P _ _ (aR _ _ :: _) _ _ _))
        refine hP _ _ _ _ _ _ (Exists.intro (n) (And.intro (And.intro (rfl) (by show n < 26; omega)) ?_))
        repeat (first | (refine hP _ _ _ _ _ _ ?_; show P _ _ _ _ _ _) | (refine hP _ _ _ _ _ _ (And.intro (hN _ _ _ rfl) ?_); show P _ _ (aR _ _ :: _) _ _ _))
        exact this
  exact loop 1024 0 0 S1 rfl (by omega) apCk_ok Ev.rf rfl (fun j hj => absurd hj (Nat.not_lt_zero j))
