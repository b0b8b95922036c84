/-! The model's reader: the next token -/
def tkM (T : Tx) (q : Nat) : Nat :=
  if T.1 ≤ bg T q then 0
  else if isLt (T.2 (bg T q)) = true then 1
  else if isDg (T.2 (bg T q)) = true then (if 4 < lf isDg T (bg T q) - bg T q then 4 else 2)
  else if isSg (T.2 (bg T q)) = true then 3 else 4
def hrM (T : Tx) (q : Nat) : Nat :=
  if T.1 ≤ bg T q then bg T q
  else if isLt (T.2 (bg T q)) = true then lf isLt T (bg T q)
  else if isDg (T.2 (bg T q)) = true then lf isDg T (bg T q)
  else if isSg (T.2 (bg T q)) = true then bg T q + 1 else bg T q
def ML (S : St) (T : Tx) (q : Nat) : Prop := S.1 40 0 24 = nI (bg T q) ∧ S.1 40 0 23 = nI (tkM T q) ∧ S.1 40 0 22 = nI (hrM T q) ∧ (tkM T q = 2 → S.2.1 = lN (vlT T q)) ∧ (tkM T q = 3 → S.2.1 = lN (T.2 (bg T q)))
theorem inB_t {p : Nat → Bool} {T : Tx} {k : Nat} (hk : k < T.1) : inB p T k = p (T.2 k) := by simp [inB, hk]
theorem inB_f {p : Nat → Bool} {T : Tx} {k : Nat} (hk : ¬ k < T.1) : inB p T k = false := by simp [inB, hk]
theorem inB_lf {p : Nat → Bool} {T : Tx} {k : Nat} : inB p T (lf p T k) = false := by
  by_cases h : lf p T k < T.1
  · rw [inB_t h]
    exact lf_no h
  · exact inB_f h
theorem bn2 {w : Bool} {A B : Prop} (h0 : w = false → A) (h1 : w = true → B) : (b2 w = 0 → A) ∧ (¬ b2 w = 0 → B) := ⟨fun z => h0 (b2_0 z), fun z => h1 (b2_1 z)⟩
theorem bn3 {w : Bool} {A B : Prop} (h0 : w = true → A) (h1 : w = false → B) : (¬ b2 w = 0 → A) ∧ (b2 w = 0 → B) := ⟨fun z => h0 (b2_1 z), fun z => h1 (b2_0 z)⟩
/-- ints' and the long's writes -/
theorem Ag.jl {S : St} {x : Int64} : Ag mL S (S.1, x, S.2.2) := ⟨fun _ _ _ _ => rfl, rfl⟩
theorem n_next {d q t : Nat} {S : St} {K : KT} {T : Tx} (hd : 2 ≤ d) (hN : NN S) (hT : MT1 S T t) (hq : q ≤ T.1) (h22 : S.1 40 0 22 = nI q) (h : ∀ S', Ag mL S S' → S'.1 40 0 26 = S.1 40 0 26 → S'.1 40 0 27 = S.1 40 0 27 → ML S' T q → K none S') : Call d m_X6_next [aR 40 0] S K := by
  refine Call.of (k := 1) hd (fun e he P hP => ?_)
  have h160 := hT.1.2.1
  have hN0 := hN
  have hle := bg_le hq
  have hge := bg_ge T q
  have keep : ∀ S1 : St, (∀ k, k = 26 ∨ k = 27 → S1.1 40 0 k = S.1 40 0 k) → S1.1 40 0 26 = S.1 40 0 26 ∧ S1.1 40 0 27 = S.1 40 0 27 := fun S1 z => ⟨z 26 (Or.inl rfl), z 27 (Or.inr rfl)⟩
  have stop : ∀ (S1 : St) (x1 x2 : Option AV), Ag mL S S1 → (∀ k, k = 26 ∨ k = 27 → S1.1 40 0 k = S.1 40 0 k) → S1.1 40 0 22 = nI (bg T q) → (x1 = none) → P 39 [some (aR 40 0), x1, x2] [] S1 0 0 := by
    intro S1 x1 x2 g1 hk1 a22 hx1
    subst hx1
    have hN := hN0.up g1
    repeat (first | (refine hP _ _ _ _ _ _ ?_; show P _ _ _ _ _ _) | (refine hP _ _ _ _ _ _ (And.intro (hN _ _ _ rfl) ?_); show P _ _ (aR _ _ :: _) _ _ _))
    rw [a22]
    show P _ _ _ (ivSet S1 40 0 24 (nI (bg T q))) _ _
    have g2 : Ag mL S (ivSet S1 40 0 24 (nI (bg T q))) := g1.tr (Ag.ml (by omega) (by omega))
    have hk2 : ∀ k, k = 26 ∨ k = 27 → (ivSet S1 40 0 24 (nI (bg T q))).1 40 0 k = S.1 40 0 k := fun k hk => by rw [iv_ne (by omega)]; exact hk1 k hk
    have c22 : (ivSet S1 40 0 24 (nI (bg T q))).1 40 0 22 = nI (bg T q) := by rw [iv_ne (by omega)]; exact a22
    have c24 : (ivSet S1 40 0 24 (nI (bg T q))).1 40 0 24 = nI (bg T q) := iv_at
    generalize ivSet S1 40 0 24 (nI (bg T q)) = S2 at g2 hk2 c22 c24 ⊢
    have hT2 := hT.ml g2
    have hN := hN0.up g2
    repeat (first | (refine hP _ _ _ _ _ _ ?_; show P _ _ _ _ _ _) | (refine hP _ _ _ _ _ _ (And.intro (hN _ _ _ rfl) ?_); show P _ _ (aR _ _ :: _) _ _ _))
    rw [c22]
    refine hP _ _ _ _ _ _ (n_byteAt (by omega) hN hT2 (by omega) ?_)
    repeat (first | (refine hP _ _ _ _ _ _ ?_; show P _ _ _ _ _ _) | (refine hP _ _ _ _ _ _ (And.intro (hN _ _ _ rfl) ?_); show P _ _ (aR _ _ :: _) _ _ _))
    show P _ _ _ (ivSet S2 40 0 23 4) _ _
    have g3 : Ag mL S (ivSet S2 40 0 23 4) := g2.tr (Ag.ml (by omega) (by omega))
    have hk3 : ∀ k, k = 26 ∨ k = 27 → (ivSet S2 40 0 23 4).1 40 0 k = S.1 40 0 k := fun k hk => by rw [iv_ne (by omega)]; exact hk2 k hk
    have d22 : (ivSet S2 40 0 23 4).1 40 0 22 = nI (bg T q) := by rw [iv_ne (by omega)]; exact c22
    have d24 : (ivSet S2 40 0 23 4).1 40 0 24 = nI (bg T q) := by rw [iv_ne (by omega)]; exact c24
    have d23 : (ivSet S2 40 0 23 4).1 40 0 23 = nI 4 := iv_at
    generalize ivSet S2 40 0 23 4 = S3 at g3 hk3 d22 d24 d23 ⊢
    have hT3 := hT.ml g3
    have hN3 := hN0.up g3
    have hN := hN3
    by_cases hlt : bg T q < T.1
    · have hnl : ¬ T.1 ≤ bg T q := by omega
      have hb := (hT.1.2.2 _ hlt).2
      have eby : byN T (bg T q) = nI (T.2 (bg T q)) := if_pos hlt
      rw [eby]
      refine hP _ _ _ _ _ _ (And.intro (fun _ => ?_) (fun hc => absurd (nI_pos' (by omega)) hc))
      repeat (first | (refine hP _ _ _ _ _ _ ?_; show P _ _ _ _ _ _) | (refine hP _ _ _ _ _ _ (And.intro (hN _ _ _ rfl) ?_); show P _ _ (aR _ _ :: _) _ _ _))
      rw [← eby]
      refine hP _ _ _ _ _ _ (n_inL (by omega) (fun _ => hb) ?_)
      rw [inB_t hlt, eby]
      repeat (first | (refine hP _ _ _ _ _ _ ?_; show P _ _ _ _ _ _) | (refine hP _ _ _ _ _ _ (And.intro (hN _ _ _ rfl) ?_); show P _ _ (aR _ _ :: _) _ _ _))
      refine hP _ _ _ _ _ _ (bn2 (fun h1 => ?_) (fun h1 => ?_))
      · repeat (first | (refine hP _ _ _ _ _ _ ?_; show P _ _ _ _ _ _) | (refine hP _ _ _ _ _ _ (And.intro (hN _ _ _ rfl) ?_); show P _ _ (aR _ _ :: _) _ _ _))
        rw [← eby]
        refine hP _ _ _ _ _ _ (n_inD (by omega) (fun _ => hb) ?_)
        rw [inB_t hlt, eby]
        repeat (first | (refine hP _ _ _ _ _ _ ?_; show P _ _ _ _ _ _) | (refine hP _ _ _ _ _ _ (And.intro (hN _ _ _ rfl) ?_); show P _ _ (aR _ _ :: _) _ _ _))
        refine hP _ _ _ _ _ _ (bn2 (fun h2 => ?_) (fun h2 => ?_))
        · have hbad : isSg (T.2 (bg T q)) = false → P 321 [some (aR 40 0), some (aI (nI (T.2 (bg T q)))), x2] [] S3 0 0 := by
            intro h3
            have et : tkM T q = 4 := by simp [tkM, hnl, h1, h2, h3]
            have eh : hrM T q = bg T q := by simp [hrM, hnl, h1, h2, h3]
            exact hP _ _ _ _ _ _ (h S3 g3 (keep S3 hk3).1 (keep S3 hk3).2 ⟨d24, by rw [et]; exact d23, by rw [eh]; exact d22, fun z => by omega, fun z => by omega⟩)
          have hgood : isSg (T.2 (bg T q)) = true → P 300 [some (aR 40 0), some (aI (nI (T.2 (bg T q)))), x2] [] S3 0 0 := by
            intro h3
            have et : tkM T q = 3 := by simp [tkM, hnl, h1, h2, h3]
            have eh : hrM T q = bg T q + 1 := by simp [hrM, hnl, h1, h2, h3]
            have e22 : (ivSet S3 40 0 23 3).1 40 0 22 + 1 = nI (hrM T q) := by rw [iv_ne (by omega), d22, nI_1, eh]
            repeat (first | (refine hP _ _ _ _ _ _ ?_; show P _ _ _ _ _ _) | (refine hP _ _ _ _ _ _ (And.intro (hN _ _ _ rfl) ?_); show P _ _ (aR _ _ :: _) _ _ _))
            show P _ _ _ (ivSet ((ivSet S3 40 0 23 3).1, (nI (T.2 (bg T q))).toInt64, (ivSet S3 40 0 23 3).2.2) 40 0 22 ((ivSet S3 40 0 23 3).1 40 0 22 + 1)) _ _
            rw [e22, nI_l (by omega)]
            refine hP _ _ _ _ _ _ (h _ ((g3.tr ((Ag.ml (by omega) (by omega)).tr Ag.jl)).tr (Ag.ml (by omega) (by omega))) ?_ ?_ ⟨?_, ?_, iv_at, fun z => by omega, fun _ => rfl⟩)
            · rw [iv_ne (by omega)]
              show (ivSet S3 40 0 23 3).1 40 0 26 = _
              rw [iv_ne (by omega)]
              exact hk3 26 (Or.inl rfl)
            · rw [iv_ne (by omega)]
              show (ivSet S3 40 0 23 3).1 40 0 27 = _
              rw [iv_ne (by omega)]
              exact hk3 27 (Or.inr rfl)
            · rw [iv_ne (by omega)]
              show (ivSet S3 40 0 23 3).1 40 0 24 = _
              rw [iv_ne (by omega)]
              exact d24
            · rw [iv_ne (by omega)]
              show (ivSet S3 40 0 23 3).1 40 0 23 = _
              rw [et]
              exact iv_at
          have neI : ∀ c, c ≤ 255 → ∀ {A B : Prop}, (T.2 (bg T q) = c → A) → (¬ T.2 (bg T q) = c → B) → (nI (T.2 (bg T q)) = nI c → A) ∧ (¬ nI (T.2 (bg T q)) = nI c → B) := fun c hc A B f g => ⟨fun z => f ((nI_eq (by omega) (by omega)).mp z), fun z => g (fun y => z (by rw [y]))⟩
          repeat (first | (refine hP _ _ _ _ _ _ ?_; show P _ _ _ _ _ _) | (refine hP _ _ _ _ _ _ (And.intro (hN _ _ _ rfl) ?_); show P _ _ (aR _ _ :: _) _ _ _))
          refine hP _ _ _ _ _ _ (neI 40 (by omega) (fun z => hgood (by rw [z]; rfl)) (fun z0 => ?_))
          repeat (first | (refine hP _ _ _ _ _ _ ?_; show P _ _ _ _ _ _) | (refine hP _ _ _ _ _ _ (And.intro (hN _ _ _ rfl) ?_); show P _ _ (aR _ _ :: _) _ _ _))
          refine hP _ _ _ _ _ _ (neI 41 (by omega) (fun z => hgood (by rw [z]; rfl)) (fun z1 => ?_))
          repeat (first | (refine hP _ _ _ _ _ _ ?_; show P _ _ _ _ _ _) | (refine hP _ _ _ _ _ _ (And.intro (hN _ _ _ rfl) ?_); show P _ _ (aR _ _ :: _) _ _ _))
          refine hP _ _ _ _ _ _ (neI 59 (by omega) (fun z => hgood (by rw [z]; rfl)) (fun z2 => ?_))
          repeat (first | (refine hP _ _ _ _ _ _ ?_; show P _ _ _ _ _ _) | (refine hP _ _ _ _ _ _ (And.intro (hN _ _ _ rfl) ?_); show P _ _ (aR _ _ :: _) _ _ _))
          refine hP _ _ _ _ _ _ (neI 43 (by omega) (fun z => hgood (by rw [z]; rfl)) (fun z3 => ?_))
          repeat (first | (refine hP _ _ _ _ _ _ ?_; show P _ _ _ _ _ _) | (refine hP _ _ _ _ _ _ (And.intro (hN _ _ _ rfl) ?_); show P _ _ (aR _ _ :: _) _ _ _))
          refine hP _ _ _ _ _ _ (neI 45 (by omega) (fun z => hgood (by rw [z]; rfl)) (fun z4 => ?_))
          repeat (first | (refine hP _ _ _ _ _ _ ?_; show P _ _ _ _ _ _) | (refine hP _ _ _ _ _ _ (And.intro (hN _ _ _ rfl) ?_); show P _ _ (aR _ _ :: _) _ _ _))
          refine hP _ _ _ _ _ _ (neI 42 (by omega) (fun z => hgood (by rw [z]; rfl)) (fun z5 => ?_))
          repeat (first | (refine hP _ _ _ _ _ _ ?_; show P _ _ _ _ _ _) | (refine hP _ _ _ _ _ _ (And.intro (hN _ _ _ rfl) ?_); show P _ _ (aR _ _ :: _) _ _ _))
          refine hP _ _ _ _ _ _ (neI 60 (by omega) (fun z => hgood (by rw [z]; rfl)) (fun z6 => ?_))
          repeat (first | (refine hP _ _ _ _ _ _ ?_; show P _ _ _ _ _ _) | (refine hP _ _ _ _ _ _ (And.intro (hN _ _ _ rfl) ?_); show P _ _ (aR _ _ :: _) _ _ _))
          have n61 := neI 61 (by omega) (A := isSg (T.2 (bg T q)) = true) (B := isSg (T.2 (bg T q)) = false) (fun z => by rw [z]; rfl) (fun z7 => by simp [isSg, z0, z1, z2, z3, z4, z5, z6, z7])
          refine hP _ _ _ _ _ _ (And.intro (fun z => hbad (n61.2 z)) (fun z => hgood (n61.1 z)))
        · have hdl := lf_le isDg T (Nat.le_of_lt hlt)
          have hdg := lf_ge isDg T (bg T q)
          have eh : hrM T q = lf isDg T (bg T q) := by simp [hrM, hnl, h1, h2]
          have et : tkM T q = if 4 < lf isDg T (bg T q) - bg T q then 4 else 2 := by simp [tkM, hnl, h1, h2]
          have loop : ∀ p, p ≤ lf isDg T (bg T q) → (bg T q ≤ p → ∀ S1, Ag mL S S1 → (∀ k, k = 26 ∨ k = 27 → S1.1 40 0 k = S.1 40 0 k) → S1.1 40 0 22 = nI p → S1.1 40 0 24 = nI (bg T q) → S1.2.1 = lN (nvN T (bg T q) (if p - bg T q < 4 then p - bg T q else 4)) → P 165 [some (aR 40 0), some (aI (nI (T.2 (bg T q)))), some (aI (nI (p - bg T q)))] [aI (S1.1 40 0 22), aR 40 0] S1 0 0) := by
            refine dn ?_ ?_
            · intro _ S1 g1 k1 a22 a24 aw
              have hN := hN0.up g1
              rw [a22]
              refine hP _ _ _ _ _ _ (n_byteAt (by omega) hN (hT.ml g1) (by omega) ?_)
              repeat (first | (refine hP _ _ _ _ _ _ ?_; show P _ _ _ _ _ _) | (refine hP _ _ _ _ _ _ (And.intro (hN _ _ _ rfl) ?_); show P _ _ (aR _ _ :: _) _ _ _))
              refine hP _ _ _ _ _ _ (n_inD (by omega) (fun z => (hT.1.2.2 _ z).2) ?_)
              rw [inB_lf]
              refine hP _ _ _ _ _ _ (And.intro (fun _ => ?_) (fun hc => absurd rfl hc))
              repeat (first | (refine hP _ _ _ _ _ _ ?_; show P _ _ _ _ _ _) | (refine hP _ _ _ _ _ _ (And.intro (hN _ _ _ rfl) ?_); show P _ _ (aR _ _ :: _) _ _ _))
              refine hP _ _ _ _ _ _ (gtI (x := lf isDg T (bg T q) - bg T q) (y := 4) (by omega) (by omega) (fun hc => ?_) (fun hc => ?_))
              · rw [if_neg hc] at et
                repeat (first | (refine hP _ _ _ _ _ _ ?_; show P _ _ _ _ _ _) | (refine hP _ _ _ _ _ _ (And.intro (hN _ _ _ rfl) ?_); show P _ _ (aR _ _ :: _) _ _ _))
                have aw2 : S1.2.1 = lN (vlT T q) := by
                  rw [aw]
                  congr 2
                  split <;> omega
                exact hP _ _ _ _ _ _ (h _ (g1.tr (Ag.ml (by omega) (by omega))) (by rw [iv_ne (by omega)]; exact k1 26 (Or.inl rfl)) (by rw [iv_ne (by omega)]; exact k1 27 (Or.inr rfl)) ⟨by rw [iv_ne (by omega)]; exact a24, by rw [et]; exact iv_at, by rw [iv_ne (by omega), eh]; exact a22, fun _ => aw2, fun z => by omega⟩)
              · rw [if_pos hc] at et
                repeat (first | (refine hP _ _ _ _ _ _ ?_; show P _ _ _ _ _ _) | (refine hP _ _ _ _ _ _ (And.intro (hN _ _ _ rfl) ?_); show P _ _ (aR _ _ :: _) _ _ _))
                exact hP _ _ _ _ _ _ (h _ (g1.tr (Ag.ml (by omega) (by omega))) (by rw [iv_ne (by omega)]; exact k1 26 (Or.inl rfl)) (by rw [iv_ne (by omega)]; exact k1 27 (Or.inr rfl)) ⟨by rw [iv_ne (by omega)]; exact a24, by rw [et]; exact iv_at, by rw [iv_ne (by omega), eh]; exact a22, fun z => by omega, fun z => by omega⟩)
            · intro p hp ih hsp S1 g1 k1 a22 a24 aw
              have hN := hN0.up g1
              have hpt : p < T.1 := by omega
              have hyes : isDg (T.2 p) = true := lf_in _ (bg T q) rfl p hsp hp
              have h48 : 48 ≤ T.2 p ∧ T.2 p ≤ 57 := by simpa [isDg] using hyes
              rw [a22]
              refine hP _ _ _ _ _ _ (n_byteAt (by omega) hN (hT.ml g1) (by omega) ?_)
              repeat (first | (refine hP _ _ _ _ _ _ ?_; show P _ _ _ _ _ _) | (refine hP _ _ _ _ _ _ (And.intro (hN _ _ _ rfl) ?_); show P _ _ (aR _ _ :: _) _ _ _))
              refine hP _ _ _ _ _ _ (n_inD (by omega) (fun z => (hT.1.2.2 _ z).2) ?_)
              rw [inB_t hpt, hyes]
              refine hP _ _ _ _ _ _ (And.intro (fun hc => absurd hc (by decide)) (fun _ => ?_))
              have fin : ∀ w : Int64, w = lN (nvN T (bg T q) (if p + 1 - bg T q < 4 then p + 1 - bg T q else 4)) → P 165 [some (aR 40 0), some (aI (nI (T.2 (bg T q)))), some (aI (nI (p - bg T q) + 1))] [aI ((ivSet (S1.1, w, S1.2.2) 40 0 22 (S1.1 40 0 22 + 1)).1 40 0 22), aR 40 0] (ivSet (S1.1, w, S1.2.2) 40 0 22 (S1.1 40 0 22 + 1)) 0 0 := by
                intro w hw
                have := ih (by omega) (ivSet (S1.1, w, S1.2.2) 40 0 22 (S1.1 40 0 22 + 1)) ((g1.tr Ag.jl).tr (Ag.ml (by omega) (by omega))) (fun k hk => by rw [iv_ne (by omega)]; exact k1 k hk) (by rw [iv_at, a22, nI_1]) (by rw [iv_ne (by omega)]; exact a24) hw
                rw [show p + 1 - bg T q = (p - bg T q) + 1 by omega, nI_succ] at this
                exact this
              repeat (first | (refine hP _ _ _ _ _ _ ?_; show P _ _ _ _ _ _) | (refine hP _ _ _ _ _ _ (And.intro (hN _ _ _ rfl) ?_); show P _ _ (aR _ _ :: _) _ _ _))
              refine hP _ _ _ _ _ _ (geI (x := p - bg T q) (y := 4) (by omega) (by omega) (fun hc => ?_) (fun hc => ?_))
              · repeat (first | (refine hP _ _ _ _ _ _ ?_; show P _ _ _ _ _ _) | (refine hP _ _ _ _ _ _ (And.intro (hN _ _ _ rfl) ?_); show P _ _ (aR _ _ :: _) _ _ _))
                refine fin _ ?_
                rw [aw, if_neg (by omega), if_neg (by omega)]
              · repeat (first | (refine hP _ _ _ _ _ _ ?_; show P _ _ _ _ _ _) | (refine hP _ _ _ _ _ _ (And.intro (hN _ _ _ rfl) ?_); show P _ _ (aR _ _ :: _) _ _ _))
                rw [a22]
                refine hP _ _ _ _ _ _ (n_byteAt (by omega) hN (hT.ml g1) (by omega) ?_)
                repeat (first | (refine hP _ _ _ _ _ _ ?_; show P _ _ _ _ _ _) | (refine hP _ _ _ _ _ _ (And.intro (hN _ _ _ rfl) ?_); show P _ _ (aR _ _ :: _) _ _ _))
                refine fin (10 * S1.2.1 + (byN T p).toInt64 - 48) ?_
                rw [aw, if_pos (by omega), show byN T p = nI (T.2 p) from if_pos hpt, nI_l (by omega), show (10 : Int64) = lN 10 from rfl, show (48 : Int64) = lN 48 from rfl, lN_mul, lN_add, lN_sub (by omega)]
                have e1 : (if p + 1 - bg T q < 4 then p + 1 - bg T q else 4) = (p - bg T q) + 1 := by split <;> omega
                rw [e1]
                simp only [nvN]
                rw [show bg T q + (p - bg T q) = p by omega]
                congr 1
                omega
          repeat (first | (refine hP _ _ _ _ _ _ ?_; show P _ _ _ _ _ _) | (refine hP _ _ _ _ _ _ (And.intro (hN _ _ _ rfl) ?_); show P _ _ (aR _ _ :: _) _ _ _))
          have k4 : ∀ k, k = 26 ∨ k = 27 → (ivSet S3 40 0 23 2).1 40 0 k = S.1 40 0 k := fun k hk => by rw [iv_ne (by omega)]; exact hk3 k hk
          have := loop (bg T q) hdg (Nat.le_refl _) ((ivSet S3 40 0 23 2).1, 0, (ivSet S3 40 0 23 2).2.2) ((g3.tr (Ag.ml (by omega) (by omega))).tr Ag.jl) k4 (by show (ivSet S3 40 0 23 2).1 40 0 22 = _; rw [iv_ne (by omega)]; exact d22) (by show (ivSet S3 40 0 23 2).1 40 0 24 = _; rw [iv_ne (by omega)]; exact d24) (by rw [Nat.sub_self]; rfl)
          rw [Nat.sub_self] at this
          exact this
      · have hll := lf_le isLt T (Nat.le_of_lt hlt)
        have hlg := lf_ge isLt T (bg T q)
        have eh : hrM T q = lf isLt T (bg T q) := by simp [hrM, hnl, h1]
        have et : tkM T q = 1 := by simp [tkM, hnl, h1]
        have loop : ∀ p, p ≤ lf isLt T (bg T q) → (bg T q ≤ p → ∀ S1, Ag mL S S1 → (∀ k, k = 26 ∨ k = 27 → S1.1 40 0 k = S.1 40 0 k) → S1.1 40 0 22 = nI p → S1.1 40 0 24 = nI (bg T q) → S1.1 40 0 23 = nI 1 → P 105 [some (aR 40 0), some (aI (nI (T.2 (bg T q)))), x2] [aI (S1.1 40 0 22), aR 40 0] S1 0 0) := by
          refine dn ?_ ?_
          · intro _ S1 g1 k1 a22 a24 a23
            have hN := hN0.up g1
            rw [a22]
            refine hP _ _ _ _ _ _ (n_byteAt (by omega) hN (hT.ml g1) (by omega) ?_)
            repeat (first | (refine hP _ _ _ _ _ _ ?_; show P _ _ _ _ _ _) | (refine hP _ _ _ _ _ _ (And.intro (hN _ _ _ rfl) ?_); show P _ _ (aR _ _ :: _) _ _ _))
            refine hP _ _ _ _ _ _ (n_inL (by omega) (fun z => (hT.1.2.2 _ z).2) ?_)
            rw [inB_lf]
            refine hP _ _ _ _ _ _ (And.intro (fun _ => ?_) (fun hc => absurd rfl hc))
            exact hP _ _ _ _ _ _ (h _ g1 (k1 26 (Or.inl rfl)) (k1 27 (Or.inr rfl)) ⟨a24, by rw [et]; exact a23, by rw [eh]; exact a22, fun z => by omega, fun z => by omega⟩)
          · intro p hp ih hsp S1 g1 k1 a22 a24 a23
            have hN := hN0.up g1
            have hpt : p < T.1 := by omega
            have hyes : isLt (T.2 p) = true := lf_in _ (bg T q) rfl p hsp hp
            rw [a22]
            refine hP _ _ _ _ _ _ (n_byteAt (by omega) hN (hT.ml g1) (by omega) ?_)
            repeat (first | (refine hP _ _ _ _ _ _ ?_; show P _ _ _ _ _ _) | (refine hP _ _ _ _ _ _ (And.intro (hN _ _ _ rfl) ?_); show P _ _ (aR _ _ :: _) _ _ _))
            refine hP _ _ _ _ _ _ (n_inL (by omega) (fun z => (hT.1.2.2 _ z).2) ?_)
            rw [inB_t hpt, hyes]
            refine hP _ _ _ _ _ _ (And.intro (fun hc => absurd hc (by decide)) (fun _ => ?_))
            repeat (first | (refine hP _ _ _ _ _ _ ?_; show P _ _ _ _ _ _) | (refine hP _ _ _ _ _ _ (And.intro (hN _ _ _ rfl) ?_); show P _ _ (aR _ _ :: _) _ _ _))
            exact ih (by omega) (ivSet S1 40 0 22 (S1.1 40 0 22 + 1)) (g1.tr (Ag.ml (by omega) (by omega))) (fun k hk => by rw [iv_ne (by omega)]; exact k1 k hk) (by rw [iv_at, a22, nI_1]) (by rw [iv_ne (by omega)]; exact a24) (by rw [iv_ne (by omega)]; exact a23)
        repeat (first | (refine hP _ _ _ _ _ _ ?_; show P _ _ _ _ _ _) | (refine hP _ _ _ _ _ _ (And.intro (hN _ _ _ rfl) ?_); show P _ _ (aR _ _ :: _) _ _ _))
        exact loop (bg T q) hlg (Nat.le_refl _) (ivSet S3 40 0 23 1) (g3.tr (Ag.ml (by omega) (by omega))) (fun k hk => by rw [iv_ne (by omega)]; exact hk3 k hk) (by rw [iv_ne (by omega)]; exact d22) (by rw [iv_ne (by omega)]; exact d24) iv_at
    · have ebg : bg T q = T.1 := by omega
      have eby : byN T (bg T q) = -1 := if_neg hlt
      have et : tkM T q = 0 := by simp [tkM, ebg]
      have eh : hrM T q = bg T q := by simp [hrM, ebg]
      rw [eby]
      repeat (first | (refine hP _ _ _ _ _ _ ?_; show P _ _ _ _ _ _) | (refine hP _ _ _ _ _ _ (And.intro (hN _ _ _ rfl) ?_); show P _ _ (aR _ _ :: _) _ _ _) | refine hP _ _ _ _ _ _ (And.intro (fun _ => ?_) (fun hc => absurd hc (by decide))) | refine hP _ _ _ _ _ _ (And.intro (fun hc => absurd hc (by decide)) (fun _ => ?_)))
      rw [show (ivSet S3 40 0 23 0).1 40 0 21 = nI (bg T q) by rw [iv_ne (by omega), hT3.2.2, ebg]]
      exact hP _ _ _ _ _ _ (h _ ((g3.tr (Ag.ml (by omega) (by omega))).tr (Ag.ml (by omega) (by omega))) (by rw [iv_ne (by omega), iv_ne (by omega)]; exact hk3 26 (Or.inl rfl)) (by rw [iv_ne (by omega), iv_ne (by omega)]; exact hk3 27 (Or.inr rfl)) ⟨iv_at, by rw [iv_ne (by omega), et]; exact iv_at, by rw [iv_ne (by omega), iv_ne (by omega), eh]; exact d22, fun z => by omega, fun z => by omega⟩)
  have loop : ∀ p, p ≤ bg T q → (q ≤ p → ∀ S1, Ag mL S S1 → (∀ k, k = 26 ∨ k = 27 → S1.1 40 0 k = S.1 40 0 k) → S1.1 40 0 22 = nI p → P 5 [some (aR 40 0), none, none] [aI (S1.1 40 0 22), aR 40 0] S1 0 0) := by
    refine dn ?_ ?_
    · intro _ S1 g1 k1 a22
      have hN := hN0.up g1
      rw [a22]
      refine hP _ _ _ _ _ _ (n_byteAt (by omega) hN (hT.ml g1) (by omega) ?_)
      have hno : byN T (bg T q) = 32 → False := by
        intro z
        unfold byN at z
        split at z
        · rename_i hlt
          have := (hT.1.2.2 _ hlt).2
          have hz := (nI_eq (b := 32) (by omega) (by decide)).mp z
          have hs : isSp (T.2 (bg T q)) = false := lf_no hlt
          rw [hz] at hs
          exact absurd hs (by decide)
        · exact absurd z (by decide)
      have hno2 : byN T (bg T q) = 10 → False := by
        intro z
        unfold byN at z
        split at z
        · rename_i hlt
          have := (hT.1.2.2 _ hlt).2
          have hz := (nI_eq (b := 10) (by omega) (by decide)).mp z
          have hs : isSp (T.2 (bg T q)) = false := lf_no hlt
          rw [hz] at hs
          exact absurd hs (by decide)
        · exact absurd z (by decide)
      repeat (first | (refine hP _ _ _ _ _ _ ?_; show P _ _ _ _ _ _) | (refine hP _ _ _ _ _ _ (And.intro (hN _ _ _ rfl) ?_); show P _ _ (aR _ _ :: _) _ _ _))
      refine hP _ _ _ _ _ _ (And.intro (fun hc => absurd hc hno) (fun _ => ?_))
      repeat (first | (refine hP _ _ _ _ _ _ ?_; show P _ _ _ _ _ _) | (refine hP _ _ _ _ _ _ (And.intro (hN _ _ _ rfl) ?_); show P _ _ (aR _ _ :: _) _ _ _))
      rw [a22]
      refine hP _ _ _ _ _ _ (n_byteAt (by omega) hN (hT.ml g1) (by omega) ?_)
      repeat (first | (refine hP _ _ _ _ _ _ ?_; show P _ _ _ _ _ _) | (refine hP _ _ _ _ _ _ (And.intro (hN _ _ _ rfl) ?_); show P _ _ (aR _ _ :: _) _ _ _))
      refine hP _ _ _ _ _ _ (And.intro (fun _ => ?_) (fun hc => absurd hc hno2))
      exact stop S1 none none g1 k1 a22 rfl
    · intro p hp ih hsp S1 g1 k1 a22
      have hN := hN0.up g1
      have hpt : p < T.1 := by omega
      have eby : byN T p = nI (T.2 p) := if_pos hpt
      have hyes : isSp (T.2 p) = true := lf_in _ q rfl p hsp hp
      simp only [isSp, decide_eq_true_eq] at hyes
      have go : P 26 [some (aR 40 0), none, none] [] S1 0 0 := by
        repeat (first | (refine hP _ _ _ _ _ _ ?_; show P _ _ _ _ _ _) | (refine hP _ _ _ _ _ _ (And.intro (hN _ _ _ rfl) ?_); show P _ _ (aR _ _ :: _) _ _ _))
        exact ih (by omega) (ivSet S1 40 0 22 (S1.1 40 0 22 + 1)) (g1.tr (Ag.ml (by omega) (by omega))) (fun k hk => by rw [iv_ne (by omega)]; exact k1 k hk) (by rw [iv_at, a22, nI_1])
      rw [a22]
      refine hP _ _ _ _ _ _ (n_byteAt (by omega) hN (hT.ml g1) (by omega) ?_)
      rw [eby]
      repeat (first | (refine hP _ _ _ _ _ _ ?_; show P _ _ _ _ _ _) | (refine hP _ _ _ _ _ _ (And.intro (hN _ _ _ rfl) ?_); show P _ _ (aR _ _ :: _) _ _ _))
      refine hP _ _ _ _ _ _ (And.intro (fun hc => ?_) (fun hc => ?_))
      · exact go
      · repeat (first | (refine hP _ _ _ _ _ _ ?_; show P _ _ _ _ _ _) | (refine hP _ _ _ _ _ _ (And.intro (hN _ _ _ rfl) ?_); show P _ _ (aR _ _ :: _) _ _ _))
        rw [a22]
        refine hP _ _ _ _ _ _ (n_byteAt (by omega) hN (hT.ml g1) (by omega) ?_)
        rw [eby]
        repeat (first | (refine hP _ _ _ _ _ _ ?_; show P _ _ _ _ _ _) | (refine hP _ _ _ _ _ _ (And.intro (hN _ _ _ rfl) ?_); show P _ _ (aR _ _ :: _) _ _ _))
        refine hP _ _ _ _ _ _ (And.intro (fun hc2 => ?_) (fun _ => ?_))
        · exfalso
          rcases hyes with e | e
          · exact hc (by rw [e]; rfl)
          · exact hc2 (by rw [e]; rfl)
        · exact go
  repeat (first | (refine hP _ _ _ _ _ _ ?_; show P _ _ _ _ _ _) | (refine hP _ _ _ _ _ _ (And.intro (hN _ _ _ rfl) ?_); show P _ _ (aR _ _ :: _) _ _ _))
  exact loop q hge (Nat.le_refl _) S (Ag.rf _ _) (fun _ _ => rfl) h22
