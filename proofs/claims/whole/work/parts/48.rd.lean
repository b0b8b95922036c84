/-! The class: read, keep, text -/
theorem fine_of {T : Tx} (h0 : (ptc T 0).1 = true) (h1 : (ptc T 1).1 = true) (h2 : (ptc T 2).1 = true) (h3 : kd T (qT T 3) = 0) : fine T = true := by simp [fine, h0, h1, h2, h3]
theorem q_read {d n : Nat} {S : St} {K : KT} {T : Tx} (hd : 62 ≤ d) (hN : NN S) (hT : TP S T) (hn : 1 ≤ n) (hn6 : n ≤ 6) (hcnt : S.2.2.2.2 = 74 + 3 * n)
    (h0 : ∀ S', Ag wRt S S' → fine T = false → S'.1 7 0 8 = nI (bg T (flt T)) → S'.1 7 0 1 = 0 → K (some aN) S')
    (h1 : ∀ S', nwT S S' n T → NN S' → fine T = true → K (some (aR 30 n)) S') : Call d m_X1_read [aR 7 0] S K := by
  refine Call.of (k := 61) hd (fun e he P hP => ?_)
  have h160 := hT.2.1
  have hN0 := hN
  have bad : ∀ S1 p, p < 3 → Ag wRt S S1 → fine T = false → S1.1 7 0 8 = nI (bg T (flt T)) → P 64 [some (aR 7 0), some (aI 1), some (aI (nI p))] [] S1 0 0 := by
    intro S1 p hp g1 hf hb
    have hN := hN.up g1
    have out : ∀ v : Int32, Ag wRt S (ivSet (ivSet S1 17 0 p v) 7 0 1 0) := fun v => (g1.tr (Ag.iv (by simp [wRt]))).tr (Ag.iv (by simp [wRt]))
    repeat (first | (refine hP _ _ _ _ _ _ ?_; show P _ _ _ _ _ _) | (refine hP _ _ _ _ _ _ (And.intro (hN _ _ _ rfl) ?_); show P _ _ (aR _ _ :: _) _ _ _))
    refine hP _ _ _ _ _ _ (Exists.intro (p) (And.intro (And.intro (rfl) (by show p < 3; omega)) ?_))
    rcases (show p = 0 ∨ p = 1 ∨ p = 2 by omega) with rfl | rfl | rfl
    · repeat (first | (refine hP _ _ _ _ _ _ ?_; show P _ _ _ _ _ _) | (refine hP _ _ _ _ _ _ (And.intro (hN _ _ _ rfl) ?_); show P _ _ (aR _ _ :: _) _ _ _) | refine hP _ _ _ _ _ _ (And.intro (fun _ => ?_) (fun hc => absurd hc (by decide))) | refine hP _ _ _ _ _ _ (And.intro (fun hc => absurd hc (by decide)) (fun _ => ?_)))
      exact hP _ _ _ _ _ _ (h0 _ (out _) hf (by rw [iv_ne (by omega), iv_ne (by omega)]; exact hb) iv_at)
    · repeat (first | (refine hP _ _ _ _ _ _ ?_; show P _ _ _ _ _ _) | (refine hP _ _ _ _ _ _ (And.intro (hN _ _ _ rfl) ?_); show P _ _ (aR _ _ :: _) _ _ _) | refine hP _ _ _ _ _ _ (And.intro (fun _ => ?_) (fun hc => absurd hc (by decide))) | refine hP _ _ _ _ _ _ (And.intro (fun hc => absurd hc (by decide)) (fun _ => ?_)))
      exact hP _ _ _ _ _ _ (h0 _ (out _) hf (by rw [iv_ne (by omega), iv_ne (by omega)]; exact hb) iv_at)
    · repeat (first | (refine hP _ _ _ _ _ _ ?_; show P _ _ _ _ _ _) | (refine hP _ _ _ _ _ _ (And.intro (hN _ _ _ rfl) ?_); show P _ _ (aR _ _ :: _) _ _ _) | refine hP _ _ _ _ _ _ (And.intro (fun _ => ?_) (fun hc => absurd hc (by decide))) | refine hP _ _ _ _ _ _ (And.intro (fun hc => absurd hc (by decide)) (fun _ => ?_)))
      exact hP _ _ _ _ _ _ (h0 _ (out _) hf (by rw [iv_ne (by omega), iv_ne (by omega)]; exact hb) iv_at)
  have fin : ∀ S1, Ag wRt S S1 → RD S1 T (qT T 3) (cdT T) 0 → (cdT T).length ≤ 160 → (ptc T 0).1 = true → (ptc T 1).1 = true → (ptc T 2).1 = true → (∀ p, p < 3 → S1.1 17 0 p = nI (stT T p + (ptc T p).2.1.length)) → P 83 [some (aR 7 0), some (aI 1), some (aI (nI 3))] [aI 1] S1 0 0 := by
    intro S1 g1 hR1 hl e0 e1 e2 he
    have hN := hN.up g1
    have hkd := kd_le T (qT T 3)
    have hflt : flt T = qT T 3 := by simp [flt, e0, e1]
    repeat (first | (refine hP _ _ _ _ _ _ ?_; show P _ _ _ _ _ _) | (refine hP _ _ _ _ _ _ (And.intro (hN _ _ _ rfl) ?_); show P _ _ (aR _ _ :: _) _ _ _) | refine hP _ _ _ _ _ _ (And.intro (fun _ => ?_) (fun hc => absurd hc (by decide))) | refine hP _ _ _ _ _ _ (And.intro (fun hc => absurd hc (by decide)) (fun _ => ?_)))
    rw [hR1.2.1.2.1]
    refine hP _ _ _ _ _ _ (kdN (c := 0) (by omega) (fun hk => ?_) (fun hk => ?_))
    · have hf : fine T = false := by simp [fine, hk]
      repeat (first | (refine hP _ _ _ _ _ _ ?_; show P _ _ _ _ _ _) | (refine hP _ _ _ _ _ _ (And.intro (hN _ _ _ rfl) ?_); show P _ _ (aR _ _ :: _) _ _ _) | refine hP _ _ _ _ _ _ (And.intro (fun _ => ?_) (fun hc => absurd hc (by decide))) | refine hP _ _ _ _ _ _ (And.intro (fun hc => absurd hc (by decide)) (fun _ => ?_)))
      exact hP _ _ _ _ _ _ (h0 _ (g1.tr (Ag.iv (by simp [wRt]))) hf (by rw [iv_ne (by omega), hflt]; exact hR1.2.1.2.2.1) iv_at)
    · have hf : fine T = true := fine_of e0 e1 e2 hk
      repeat (first | (refine hP _ _ _ _ _ _ ?_; show P _ _ _ _ _ _) | (refine hP _ _ _ _ _ _ (And.intro (hN _ _ _ rfl) ?_); show P _ _ (aR _ _ :: _) _ _ _) | refine hP _ _ _ _ _ _ (And.intro (fun _ => ?_) (fun hc => absurd hc (by decide))) | refine hP _ _ _ _ _ _ (And.intro (fun hc => absurd hc (by decide)) (fun _ => ?_)))
      show P _ _ _ (ivSet S1 7 0 1 0) _ _
      have g8 : Ag wRt S (ivSet S1 7 0 1 0) := g1.tr (Ag.iv (by simp [wRt]))
      have u8 : (ivSet S1 7 0 1 0).1 7 0 3 = nI (cdT T).length := by rw [iv_ne (by omega)]; exact hR1.2.2.2.1
      have c8 : ∀ k, k < (cdT T).length → (ivSet S1 7 0 1 0).1 9 0 k = nI ((cdT T).getD k 0) := fun k hk => by rw [iv_ne (by omega)]; exact hR1.2.2.2.2.1 k hk
      have e8 : ∀ p, p < 3 → (ivSet S1 7 0 1 0).1 17 0 p = nI (stT T p + (ptc T p).2.1.length) := fun p hp => by rw [iv_ne (by omega)]; exact he p hp
      have z8 : (ivSet S1 7 0 1 0).1 7 0 1 = 0 := iv_at
      generalize ivSet S1 7 0 1 0 = S8 at g8 u8 c8 e8 z8 ⊢
      have hN8 : ∀ j g k, (nnr j k && !(Nat.beq j 30)) = true → S8.2.2.1 j g k = true := fun j g k hj => by
        rw [g8.2]
        simp only [Bool.and_eq_true] at hj
        exact hN0 j g k hj.1
      have hcnt8 : S8.2.2.2.2 = 74 + 3 * n := by rw [g8.2]; exact hcnt
      obtain ⟨i1, i2, i3⟩ := idOf_new hn
      have hN := hN8
      repeat (first | (refine hP _ _ _ _ _ _ ?_; show P _ _ _ _ _ _) | (refine hP _ _ _ _ _ _ (And.intro (hN _ _ _ rfl) ?_); show P _ _ (aR _ _ :: _) _ _ _))
      rw [u8]
      refine hP _ _ _ _ _ _ (Exists.intro 31 (Exists.intro n (Exists.intro (cdT T).length ⟨rfl, by omega, by rw [hcnt8]; exact i1, by omega, rfl, Or.inl rfl, (by show 0 + 1 ≤ 1000; omega), (by show 0 + (cdT T).length ≤ 165; omega), ?_⟩)))
      have m1 : ∀ x y k, ¬ (x = 31 ∧ y = n) → (mkC S8 31 n (cdT T).length).1 x y k = S8.1 x y k := fun x y k hx => by simp [mkC, zr3, hx]
      have hN1 : ∀ j g k, (nnr j k && !(Nat.beq j 30)) = true → (mkC S8 31 n (cdT T).length).2.2.1 j g k = true := by
        intro j g k hj
        simp only [mkC, zr3]
        rw [if_neg]
        · exact hN8 j g k hj
        · rintro ⟨rfl, -⟩
          have : nnr 31 k = false := rfl
          rw [this] at hj
          cases hj
      have ct1 : (mkC S8 31 n (cdT T).length).2.2.2.2 = 74 + 3 * n + 1 := by simp [mkC, hcnt8]
      have tl1 : (mkC S8 31 n (cdT T).length).2.2.2.1 n = (cdT T).length := by simp [mkC, upN]
      have tl2 : ∀ t, ¬ t = n → (mkC S8 31 n (cdT T).length).2.2.2.1 t = S8.2.2.2.1 t := fun t ht => by simp [mkC, upN, ht]
      have nn1 : (mkC S8 31 n (cdT T).length).2.2.1 = zr3 S8.2.2.1 31 n false := rfl
      generalize mkC S8 31 n (cdT T).length = A1 at m1 hN1 ct1 tl1 tl2 nn1 ⊢
      have hN := hN1
      repeat (first | (refine hP _ _ _ _ _ _ ?_; show P _ _ _ _ _ _) | (refine hP _ _ _ _ _ _ (And.intro (hN _ _ _ rfl) ?_); show P _ _ (aR _ _ :: _) _ _ _))
      rw [m1 7 0 3 (by omega), u8]
      refine hP _ _ _ _ _ _ (Exists.intro 0 (Exists.intro 0 (Exists.intro (cdT T).length ⟨rfl, rfl, rfl, (by show 0 + (cdT T).length ≤ 160; omega), (by show 0 + (cdT T).length ≤ A1.2.2.2.1 n; omega), by omega, ?_⟩)))
      show P _ _ _ (cpS A1 31 n 9 0 (cdT T).length) _ _
      have k2 : ∀ k, k < (cdT T).length → (cpS A1 31 n 9 0 (cdT T).length).1 31 n k = nI ((cdT T).getD k 0) := fun k hk => by rw [cp_in hk, m1 9 0 k (by omega)]; exact c8 k hk
      have m2 : ∀ x y k, ¬ (x = 31 ∧ y = n) → (cpS A1 31 n 9 0 (cdT T).length).1 x y k = S8.1 x y k := fun x y k hx => by rw [cp_out (fun z => hx ⟨z.1, z.2.1⟩)]; exact m1 x y k hx
      have s2 : (cpS A1 31 n 9 0 (cdT T).length).2 = A1.2 := rfl
      generalize cpS A1 31 n 9 0 (cdT T).length = A2 at k2 m2 s2 ⊢
      have hN : ∀ j g k, (nnr j k && !(Nat.beq j 30)) = true → A2.2.2.1 j g k = true := fun j g k hj => by rw [s2]; exact hN1 j g k hj
      have hN2 := hN
      repeat (first | (refine hP _ _ _ _ _ _ ?_; show P _ _ _ _ _ _) | (refine hP _ _ _ _ _ _ (And.intro (hN _ _ _ rfl) ?_); show P _ _ (aR _ _ :: _) _ _ _))
      refine hP _ _ _ _ _ _ (Exists.intro 30 (Exists.intro n ⟨by rw [s2, ct1]; exact i2, rfl, (by show 0 + 1 + 1 ≤ 1000; omega), (by show 0 + (cdT T).length + 2 ≤ 165; omega), (fun z => by cases z), ?_⟩))
      have m3 : ∀ x y k, ¬ (x = 30 ∧ y = n) → (mkC A2 30 n 0).1 x y k = A2.1 x y k := fun x y k hx => by simp [mkC, zr3, hx]
      have nn3 : (mkC A2 30 n 0).2.2.1 = zr3 (zr3 S8.2.2.1 31 n false) 30 n false := by
        show zr3 A2.2.2.1 30 n false = _
        rw [s2, nn1]
      have hN3 : ∀ j g k, (nnr j k && !(Nat.beq j 30)) = true → (mkC A2 30 n 0).2.2.1 j g k = true := by
        intro j g k hj
        simp only [mkC, zr3]
        rw [if_neg]
        · exact hN2 j g k hj
        · rintro ⟨rfl, -⟩
          simp at hj
      have ct3 : (mkC A2 30 n 0).2.2.2.2 = 74 + 3 * n + 2 := by show A2.2.2.2.2 + 1 = _; rw [s2, ct1]
      have tl3 : (mkC A2 30 n 0).2.2.2.1 = A1.2.2.2.1 := by show A2.2.2.2.1 = _; rw [s2]
      have lo3 : (mkC A2 30 n 0).2.1 = A2.2.1 := rfl
      generalize mkC A2 30 n 0 = A3 at m3 nn3 hN3 ct3 tl3 lo3 ⊢
      have hN := hN3
      repeat (first | (refine hP _ _ _ _ _ _ ?_; show P _ _ _ _ _ _) | (refine hP _ _ _ _ _ _ (And.intro (hN _ _ _ rfl) ?_); show P _ _ (aR _ _ :: _) _ _ _))
      refine hP _ _ _ _ _ _ (Exists.intro 32 (Exists.intro n ⟨by rw [ct3]; exact i3, rfl, by decide, rfl, (by show 0 + 1 + 1 + 1 ≤ 1000; omega), (by show 0 + (cdT T).length + 2 + 3 ≤ 165; omega), ?_⟩))
      repeat (first | (refine hP _ _ _ _ _ _ ?_; show P _ _ _ _ _ _) | (refine hP _ _ _ _ _ _ (And.intro (hN _ _ _ rfl) ?_); show P _ _ (aR _ _ :: _) _ _ _))
      refine hP _ _ _ _ _ _ (q_Text_init (by omega) ?_)
      refine hP _ _ _ _ _ _ (h1 _ ?_ ?_ hf)
      · refine ⟨?_, ?_, ?_, ?_, ?_, ?_, ?_, ?_⟩
        · intro j g k hw hne
          show (if j = 32 ∧ g = n then A3.1 17 0 k else A3.1 j g k) = S.1 j g k
          rw [if_neg (fun z => hne ⟨Or.inr (Or.inl z.1), z.2⟩), m3 j g k (fun z => hne ⟨Or.inr (Or.inr z.1), z.2⟩), m2 j g k (fun z => hne ⟨Or.inl z.1, z.2⟩)]
          exact g8.1 j g k hw
        · intro j g k hne
          show up3 (up3 (zr3 A3.2.2.1 32 n false) 30 n 0 true) 30 n 1 true j g k = _
          rw [nn3]
          simp only [up3, zr3]
          rw [if_neg (fun z => hne ⟨Or.inr (Or.inr z.1), z.2.1⟩), if_neg (fun z => hne ⟨Or.inr (Or.inr z.1), z.2.1⟩), if_neg (fun z => hne ⟨Or.inr (Or.inl z.1), z.2⟩), if_neg (fun z => hne ⟨Or.inr (Or.inr z.1), z.2⟩), if_neg (fun z => hne ⟨Or.inl z.1, z.2⟩), g8.2]
        · intro t ht
          show A3.2.2.2.1 t = _
          rw [tl3, tl2 t ht, g8.2]
        · show A3.2.2.2.1 n = _
          rw [tl3, tl1]
        · show A3.2.2.2.2 + 1 = _
          rw [ct3, hcnt]
        · intro k hk
          show (if 31 = 32 ∧ n = n then A3.1 17 0 k else A3.1 31 n k) = _
          rw [if_neg (by omega), m3 31 n k (by omega)]
          exact k2 k hk
        · intro p hp
          show (if 32 = 32 ∧ n = n then A3.1 17 0 p else A3.1 32 n p) = _
          rw [if_pos ⟨rfl, rfl⟩, m3 17 0 p (by omega), m2 17 0 p (by omega)]
          exact e8 p hp
        · show (if 7 = 32 ∧ 0 = n then A3.1 17 0 1 else A3.1 7 0 1) = _
          rw [if_neg (by omega), m3 7 0 1 (by omega), m2 7 0 1 (by omega)]
          exact z8
      · intro j g k hj
        show up3 (up3 (zr3 A3.2.2.1 32 n false) 30 n 0 true) 30 n 1 true j g k = true
        rw [nn3]
        simp only [up3, zr3]
        by_cases q1 : j = 30 ∧ g = n ∧ k = 1
        · rw [if_pos q1]
        · rw [if_neg q1]
          by_cases q2 : j = 30 ∧ g = n ∧ k = 0
          · rw [if_pos q2]
          · rw [if_neg q2, if_neg (by rintro ⟨rfl, -⟩; have : nnr 32 k = false := rfl; rw [this] at hj; cases hj), if_neg ?_, if_neg (by rintro ⟨rfl, -⟩; have : nnr 31 k = false := rfl; rw [this] at hj; cases hj), g8.2]
            · exact hN0 j g k hj
            · rintro ⟨rfl, rfl⟩
              have hk : Nat.ble (k + 1) 2 = true := by
                have : (Nat.beq (fty 4 k) 2 && Nat.ble (k + 1) 2) = true := hj
                simp only [Bool.and_eq_true] at this
                exact this.2
              have := Nat.le_of_ble_eq_true hk
              omega
  have p0 := pt_in (T := T) (p := 0) (qT_le T 0)
  have p1 := pt_in (T := T) (p := 1) (qT_le T 1)
  have p2 := pt_in (T := T) (p := 2) (qT_le T 2)
  have bl := bg_le (qT_le T 3)
  repeat (first | (refine hP _ _ _ _ _ _ ?_; show P _ _ _ _ _ _) | (refine hP _ _ _ _ _ _ (And.intro (hN _ _ _ rfl) ?_); show P _ _ (aR _ _ :: _) _ _ _))
  show P _ _ _ (ivSet (ivSet (ivSet S 7 0 3 0) 7 0 5 0) 7 0 9 0) _ _
  have g1 : Ag wRd S (ivSet (ivSet (ivSet S 7 0 3 0) 7 0 5 0) 7 0 9 0) := ((Ag.iv (by simp [wRd])).tr (Ag.iv (by simp [wRd]))).tr (Ag.iv (by simp [wRd]))
  have v3 : (ivSet (ivSet (ivSet S 7 0 3 0) 7 0 5 0) 7 0 9 0).1 7 0 3 = nI 0 := by rw [iv_ne (by omega), iv_ne (by omega), iv_at]; rfl
  have v5 : (ivSet (ivSet (ivSet S 7 0 3 0) 7 0 5 0) 7 0 9 0).1 7 0 5 = nI 0 := by rw [iv_ne (by omega), iv_at]; rfl
  have v9 : (ivSet (ivSet (ivSet S 7 0 3 0) 7 0 5 0) 7 0 9 0).1 7 0 9 = nI 0 := by rw [iv_at]; rfl
  have hT1 : TP (ivSet (ivSet (ivSet S 7 0 3 0) 7 0 5 0) 7 0 9 0) T := hT.up g1 (fun k => by simp [wRd])
  generalize ivSet (ivSet (ivSet S 7 0 3 0) 7 0 5 0) 7 0 9 0 = S1 at g1 v3 v5 v9 hT1 ⊢
  have hN1 := hN0.up g1
  repeat (first | (refine hP _ _ _ _ _ _ ?_; show P _ _ _ _ _ _) | (refine hP _ _ _ _ _ _ (And.intro (hN _ _ _ rfl) ?_); show P _ _ (aR _ _ :: _) _ _ _))
  refine hP _ _ _ _ _ _ (r_next0 (by omega) hN1 hT1 v3 v5 v9 (fun S2 g2 hR2 => ?_))
  have hN2 := hN1.up g2
  have hN := hN2
  repeat (first | (refine hP _ _ _ _ _ _ ?_; show P _ _ _ _ _ _) | (refine hP _ _ _ _ _ _ (And.intro (hN _ _ _ rfl) ?_); show P _ _ (aR _ _ :: _) _ _ _) | refine hP _ _ _ _ _ _ (And.intro (fun _ => ?_) (fun hc => absurd hc (by decide))) | refine hP _ _ _ _ _ _ (And.intro (fun hc => absurd hc (by decide)) (fun _ => ?_)))
  refine r_part (p := 0) (cc := []) (by omega) hP (by omega) hN2 hR2 (Nat.zero_le _) (fun S3 g3 e3 hR3 => ?_) (fun S3 g3 e3 b3 => ?_)
  · have hN3 := hN2.up g3
    have hN := hN3
    have l3 := (p0.2 e3).1
    have hu3 := hR3.2.2.2.1
    repeat (first | (refine hP _ _ _ _ _ _ ?_; show P _ _ _ _ _ _) | (refine hP _ _ _ _ _ _ (And.intro (hN _ _ _ rfl) ?_); show P _ _ (aR _ _ :: _) _ _ _) | refine hP _ _ _ _ _ _ (And.intro (fun _ => ?_) (fun hc => absurd hc (by decide))) | refine hP _ _ _ _ _ _ (And.intro (fun hc => absurd hc (by decide)) (fun _ => ?_)))
    refine hP _ _ _ _ _ _ (Exists.intro (0) (And.intro (And.intro (rfl) (by show 0 < 3; omega)) ?_))
    rw [hu3]
    show P _ _ _ (ivSet S3 17 0 0 (nI ([] ++ (pt T 0 0).2.1).length)) _ _
    have hR4 := hR3.e (p := 0) (v := nI ([] ++ (pt T 0 0).2.1).length)
    have g4 : Ag wRt S (ivSet S3 17 0 0 (nI ([] ++ (pt T 0 0).2.1).length)) := ((g1.tr (g2.tr g3)).mono wRd_t).tr (Ag.iv (by simp [wRt]))
    have w0' : (ivSet S3 17 0 0 (nI ([] ++ (pt T 0 0).2.1).length)).1 17 0 0 = nI (stT T 0 + (ptc T 0).2.1.length) := by
      rw [iv_at]
      simp [stT, ptc, qT]
    generalize ivSet S3 17 0 0 (nI ([] ++ (pt T 0 0).2.1).length) = S4 at hR4 g4 w0' ⊢
    have hN4 := hN0.up g4
    have hN := hN4
    repeat (first | (refine hP _ _ _ _ _ _ ?_; show P _ _ _ _ _ _) | (refine hP _ _ _ _ _ _ (And.intro (hN _ _ _ rfl) ?_); show P _ _ (aR _ _ :: _) _ _ _) | refine hP _ _ _ _ _ _ (And.intro (fun _ => ?_) (fun hc => absurd hc (by decide))) | refine hP _ _ _ _ _ _ (And.intro (fun hc => absurd hc (by decide)) (fun _ => ?_)))
    refine r_part (p := 1) (cc := [] ++ (pt T 0 0).2.1) (by omega) hP (by omega) hN4 hR4 (by have a3 : bg T 0 + (pt T 0 0).2.1.length ≤ bg T (pt T 0 0).2.2 := l3; simp only [List.nil_append]; omega) (fun S5 g5 e5 hR5 => ?_) (fun S5 g5 e5 b5 => ?_)
    · have hN5 := hN4.up g5
      have hN := hN5
      have l5 := (p1.2 e5).1
      have hu5 := hR5.2.2.2.1
      repeat (first | (refine hP _ _ _ _ _ _ ?_; show P _ _ _ _ _ _) | (refine hP _ _ _ _ _ _ (And.intro (hN _ _ _ rfl) ?_); show P _ _ (aR _ _ :: _) _ _ _) | refine hP _ _ _ _ _ _ (And.intro (fun _ => ?_) (fun hc => absurd hc (by decide))) | refine hP _ _ _ _ _ _ (And.intro (fun hc => absurd hc (by decide)) (fun _ => ?_)))
      refine hP _ _ _ _ _ _ (Exists.intro (1) (And.intro (And.intro (rfl) (by show 1 < 3; omega)) ?_))
      rw [hu5]
      have hR6 := hR5.e (p := 1) (v := nI ([] ++ (pt T 0 0).2.1 ++ (pt T 1 (pt T 0 0).2.2).2.1).length)
      have g6 : Ag wRt S (ivSet S5 17 0 1 (nI ([] ++ (pt T 0 0).2.1 ++ (pt T 1 (pt T 0 0).2.2).2.1).length)) := (g4.tr (g5.mono wRd_t)).tr (Ag.iv (by simp [wRt]))
      have w6 : (ivSet S5 17 0 1 (nI ([] ++ (pt T 0 0).2.1 ++ (pt T 1 (pt T 0 0).2.2).2.1).length)).1 17 0 0 = nI (stT T 0 + (ptc T 0).2.1.length) := by
        rw [iv_ne (by omega), g5.1 17 0 0 (by simp [wRd])]
        exact w0'
      have w6' : (ivSet S5 17 0 1 (nI ([] ++ (pt T 0 0).2.1 ++ (pt T 1 (pt T 0 0).2.2).2.1).length)).1 17 0 1 = nI (stT T 1 + (ptc T 1).2.1.length) := by
        rw [iv_at]
        simp [stT, ptc, qT]
      show P _ _ _ (ivSet S5 17 0 1 (nI ([] ++ (pt T 0 0).2.1 ++ (pt T 1 (pt T 0 0).2.2).2.1).length)) _ _
      generalize ivSet S5 17 0 1 (nI ([] ++ (pt T 0 0).2.1 ++ (pt T 1 (pt T 0 0).2.2).2.1).length) = S6 at hR6 g6 w6 w6' ⊢
      have hN6 := hN0.up g6
      have hN := hN6
      repeat (first | (refine hP _ _ _ _ _ _ ?_; show P _ _ _ _ _ _) | (refine hP _ _ _ _ _ _ (And.intro (hN _ _ _ rfl) ?_); show P _ _ (aR _ _ :: _) _ _ _) | refine hP _ _ _ _ _ _ (And.intro (fun _ => ?_) (fun hc => absurd hc (by decide))) | refine hP _ _ _ _ _ _ (And.intro (fun hc => absurd hc (by decide)) (fun _ => ?_)))
      refine r_part (p := 2) (cc := [] ++ (pt T 0 0).2.1 ++ (pt T 1 (pt T 0 0).2.2).2.1) (by omega) hP (by omega) hN6 hR6 ?_ (fun S7 g7 e7 hR7 => ?_) (fun S7 g7 e7 b7 => ?_)
      · have a3 : bg T 0 + (pt T 0 0).2.1.length ≤ bg T (pt T 0 0).2.2 := l3
        have a5 : bg T (pt T 0 0).2.2 + (pt T 1 (pt T 0 0).2.2).2.1.length ≤ bg T (pt T 1 (pt T 0 0).2.2).2.2 := l5
        simp only [List.nil_append, List.length_append]
        omega
      · have hN7 := hN6.up g7
        have hN := hN7
        have l7 := (p2.2 e7).1
        have hu7 := hR7.2.2.2.1
        repeat (first | (refine hP _ _ _ _ _ _ ?_; show P _ _ _ _ _ _) | (refine hP _ _ _ _ _ _ (And.intro (hN _ _ _ rfl) ?_); show P _ _ (aR _ _ :: _) _ _ _) | refine hP _ _ _ _ _ _ (And.intro (fun _ => ?_) (fun hc => absurd hc (by decide))) | refine hP _ _ _ _ _ _ (And.intro (fun hc => absurd hc (by decide)) (fun _ => ?_)))
        refine hP _ _ _ _ _ _ (Exists.intro (2) (And.intro (And.intro (rfl) (by show 2 < 3; omega)) ?_))
        rw [hu7]
        have hR8 := hR7.e (p := 2) (v := nI ([] ++ (pt T 0 0).2.1 ++ (pt T 1 (pt T 0 0).2.2).2.1 ++ (pt T 2 (pt T 1 (pt T 0 0).2.2).2.2).2.1).length)
        have ecd : [] ++ (pt T 0 0).2.1 ++ (pt T 1 (pt T 0 0).2.2).2.1 ++ (pt T 2 (pt T 1 (pt T 0 0).2.2).2.2).2.1 = cdT T := rfl
        rw [ecd] at hR8 ⊢
        have g8 : Ag wRt S (ivSet S7 17 0 2 (nI (cdT T).length)) := (g6.tr (g7.mono wRd_t)).tr (Ag.iv (by simp [wRt]))
        have w8 : ∀ p, p < 3 → (ivSet S7 17 0 2 (nI (cdT T).length)).1 17 0 p = nI (stT T p + (ptc T p).2.1.length) := by
          intro p hp
          rcases (show p = 0 ∨ p = 1 ∨ p = 2 by omega) with rfl | rfl | rfl
          · rw [iv_ne (by omega), g7.1 17 0 0 (by simp [wRd])]
            exact w6
          · rw [iv_ne (by omega), g7.1 17 0 1 (by simp [wRd])]
            exact w6'
          · rw [iv_at]
            simp [stT, cdT, Nat.add_assoc]
        show P _ _ _ (ivSet S7 17 0 2 (nI (cdT T).length)) _ _
        generalize ivSet S7 17 0 2 (nI (cdT T).length) = S8 at hR8 g8 w8 ⊢
        repeat (first | (refine hP _ _ _ _ _ _ ?_; show P _ _ _ _ _ _) | (refine hP _ _ _ _ _ _ (And.intro (hN _ _ _ rfl) ?_); show P _ _ (aR _ _ :: _) _ _ _))
        refine hP _ _ _ _ _ _ (And.intro (fun _ => ?_) (fun hc => absurd (by decide) hc))
        repeat (first | (refine hP _ _ _ _ _ _ ?_; show P _ _ _ _ _ _) | (refine hP _ _ _ _ _ _ (And.intro (hN _ _ _ rfl) ?_); show P _ _ (aR _ _ :: _) _ _ _))
        have hlen : (cdT T).length ≤ 160 := by
          have a3 : bg T 0 + (pt T 0 0).2.1.length ≤ bg T (pt T 0 0).2.2 := l3
          have a5 : bg T (pt T 0 0).2.2 + (pt T 1 (pt T 0 0).2.2).2.1.length ≤ bg T (pt T 1 (pt T 0 0).2.2).2.2 := l5
          have a7 : bg T (pt T 1 (pt T 0 0).2.2).2.2 + (pt T 2 (pt T 1 (pt T 0 0).2.2).2.2).2.1.length ≤ bg T (pt T 2 (pt T 1 (pt T 0 0).2.2).2.2).2.2 := l7
          have bl : bg T (pt T 2 (pt T 1 (pt T 0 0).2.2).2.2).2.2 ≤ T.1 := bl
          rw [← ecd]
          simp only [List.nil_append, List.length_append]
          omega
        exact fin S8 g8 hR8 hlen e3 e5 e7 w8
      · have hf : fine T = false := by
          have : (ptc T 2).1 = false := e7
          simp [fine, this]
        refine bad S7 2 (by omega) (g6.tr (g7.mono wRd_t)) hf ?_
        rw [b7]
        have z0 : (ptc T 0).1 = true := e3
        have z1 : (ptc T 1).1 = true := e5
        simp only [flt, z0, z1, cond]
        rfl
    · have hf : fine T = false := by
        have : (ptc T 1).1 = false := e5
        simp [fine, this]
      refine bad S5 1 (by omega) (g4.tr (g5.mono wRd_t)) hf ?_
      rw [b5]
      have z0 : (ptc T 0).1 = true := e3
      have z1 : (ptc T 1).1 = false := e5
      simp only [flt, z0, z1, cond]
      rfl
  · have hf : fine T = false := by
      have : (ptc T 0).1 = false := e3
      simp [fine, this]
    refine bad S3 0 (by omega) ((g1.tr (g2.tr g3)).mono wRd_t) hf ?_
    rw [b3]
    have z0 : (ptc T 0).1 = false := e3
    simp only [flt, z0, cond]
    rfl

theorem q_keep {d n : Nat} {S : St} {K : KT} (hd : 1 ≤ d) (hN : NN S) (hn : n < 6) (hc : S.1 1 0 1 = nI n) (h : K (some (aI (nI n))) (ivSet (nnSet S 3 0 n) 1 0 1 (nI (n + 1)))) : Call d m_X2_keep [aR 1 0, aR 30 n] S K := by
  refine Call.of (k := 0) hd (fun e he P hP => ?_)
  repeat (first | (refine hP _ _ _ _ _ _ ?_; show P _ _ _ _ _ _) | (refine hP _ _ _ _ _ _ (And.intro (hN _ _ _ rfl) ?_); show P _ _ (aR _ _ :: _) _ _ _))
  rw [hc]
  refine hP _ _ _ _ _ _ (Exists.intro n (And.intro (And.intro rfl (by show n < 6; omega)) (And.intro rfl ?_)))
  repeat (first | (refine hP _ _ _ _ _ _ ?_; show P _ _ _ _ _ _) | (refine hP _ _ _ _ _ _ (And.intro (hN _ _ _ rfl) ?_); show P _ _ (aR _ _ :: _) _ _ _))
  have e : (nnSet S 3 0 n).1 1 0 1 + 1 = nI (n + 1) := by show S.1 1 0 1 + 1 = _; rw [hc, nI_1]
  show P _ _ _ (ivSet (nnSet S 3 0 n) 1 0 1 ((nnSet S 3 0 n).1 1 0 1 + 1)) _ _
  rw [e]
  repeat (first | (refine hP _ _ _ _ _ _ ?_; show P _ _ _ _ _ _) | (refine hP _ _ _ _ _ _ (And.intro (hN _ _ _ rfl) ?_); show P _ _ (aR _ _ :: _) _ _ _))
  show P _ _ [aI ((ivSet (nnSet S 3 0 n) 1 0 1 (nI (n + 1))).1 1 0 1 - 1)] _ _ _
  rw [iv_at, nI_pred]
  exact hP _ _ _ _ _ _ (h)
/-- what text() leaves: all but the reader, the texts -/
def txK (S S' : St) : Prop := ∀ j g k, ¬ (j = 7 ∨ j = 9 ∨ j = 17 ∨ j = 30 ∨ j = 31 ∨ j = 32 ∨ j = 1) → S'.1 j g k = S.1 j g k
def upT (tb : Nat → Tx) (n : Nat) (T : Tx) : Nat → Tx := fun t => if t = n then T else tb t
theorem q_text {d nT : Nat} {S : St} {K : KT} {T : Tx} {tb : Nat → Tx} (hd : 63 ≤ d) (hN : NN S) (hT : TP S T) (hX : TXC S nT tb) (hcnt : S.2.2.2.2 = 74 + 3 * nT)
    (hF : nT = 6 → K (some (aI (-4))) S)
    (h0 : nT < 6 → fine T = false → ∀ S', Ag wRt S S' → S'.1 7 0 1 = nI 0 → K (some (aI (-100 - nI (bg T (flt T))))) S')
    (h1 : nT < 6 → fine T = true → ∀ S', NN S' → txK S S' → TXC S' (nT + 1) (upT tb nT T) → S'.2.2.2.2 = 74 + 3 * (nT + 1) → S'.1 7 0 1 = nI 0 → K (some (aI (nI nT))) S') : Call d m_X5_text [aR 0 0] S K := by
  refine Call.of (k := 62) hd (fun e he P hP => ?_)
  have hn6 := hX.2.1
  repeat (first | (refine hP _ _ _ _ _ _ ?_; show P _ _ _ _ _ _) | (refine hP _ _ _ _ _ _ (And.intro (hN _ _ _ rfl) ?_); show P _ _ (aR _ _ :: _) _ _ _))
  rw [hX.2.2.1]
  refine hP _ _ _ _ _ _ (ltI (x := nT) (y := 6) (by omega) (by omega) (fun hlt => ?_) (fun hlt => ?_))
  · repeat (first | (refine hP _ _ _ _ _ _ ?_; show P _ _ _ _ _ _) | (refine hP _ _ _ _ _ _ (And.intro (hN _ _ _ rfl) ?_); show P _ _ (aR _ _ :: _) _ _ _))
    refine hP _ _ _ _ _ _ (And.intro (by show 0 + 1000 ≤ 1000; omega) (And.intro (by show 0 + 165 ≤ 165; omega) ?_))
    refine q_read (by omega) hN hT hX.1 hn6 hcnt (fun S1 g1 hf hb hz => ?_) (fun S1 hw hN1 hf => ?_)
    · refine And.intro (fun z => absurd z (by decide)) ?_
      have hN := hN.up g1
      repeat (first | (refine hP _ _ _ _ _ _ ?_; show P _ _ _ _ _ _) | (refine hP _ _ _ _ _ _ (And.intro (hN _ _ _ rfl) ?_); show P _ _ (aR _ _ :: _) _ _ _))
      rw [hb]
      exact hP _ _ _ _ _ _ (h0 hlt hf S1 g1 hz)
    · refine And.intro (fun z => absurd z (by decide)) ?_
      have hN := hN1
      obtain ⟨w1, w2, w3, w4, w5, w6, w7, w8⟩ := hw
      have hc1 : S1.1 1 0 1 = nI nT := by rw [w1 1 0 1 (by simp [wRt]) (by omega)]; exact hX.2.2.1
      repeat (first | (refine hP _ _ _ _ _ _ ?_; show P _ _ _ _ _ _) | (refine hP _ _ _ _ _ _ (And.intro (hN _ _ _ rfl) ?_); show P _ _ (aR _ _ :: _) _ _ _))
      refine hP _ _ _ _ _ _ (q_keep (by omega) hN1 hlt hc1 ?_)
      repeat (first | (refine hP _ _ _ _ _ _ ?_; show P _ _ _ _ _ _) | (refine hP _ _ _ _ _ _ (And.intro (hN _ _ _ rfl) ?_); show P _ _ (aR _ _ :: _) _ _ _))
      refine hP _ _ _ _ _ _ (h1 hlt hf _ ?_ ?_ ?_ ?_ ?_)
      · intro j g k hj
        show up3 S1.2.2.1 3 0 nT true j g k = true
        simp only [up3]
        split
        · rfl
        · exact hN1 j g k hj
      · intro j g k hj
        rw [iv_ne (by omega)]
        exact w1 j g k (by simp only [wRt]; omega) (by omega)
      · refine ⟨by omega, by omega, iv_at, fun t ht => ?_⟩
        by_cases e : t = nT
        · subst e
          rw [show upT tb t T t = T from if_pos rfl]
          refine ⟨hf, ?_, w4, ?_, fun k hk => ?_, fun p hp => ?_⟩
          · show up3 S1.2.2.1 3 0 t true 3 0 t = true
            simp [up3]
          · have p0 := (pt_in (T := T) (p := 0) (qT_le T 0)).2
            have p1 := (pt_in (T := T) (p := 1) (qT_le T 1)).2
            have p2 := (pt_in (T := T) (p := 2) (qT_le T 2)).2
            have bl := bg_le (qT_le T 3)
            have h160 := hT.2.1
            simp only [fine, Bool.and_eq_true] at hf
            have q0 := (p0 hf.1.1.1).1
            have q1 := (p1 hf.1.1.2).1
            have q2 := (p2 hf.1.2).1
            have q0 : bg T (qT T 0) + (ptc T 0).2.1.length ≤ bg T (qT T 1) := q0
            have q1 : bg T (qT T 1) + (ptc T 1).2.1.length ≤ bg T (qT T 2) := q1
            have q2 : bg T (qT T 2) + (ptc T 2).2.1.length ≤ bg T (qT T 3) := q2
            simp only [cdT, List.length_append]
            omega
          · rw [iv_ne (by omega)]
            exact w6 k hk
          · rw [iv_ne (by omega)]
            exact w7 p hp
        · rw [show upT tb nT T t = tb t from if_neg e]
          refine (hX.2.2.2 t (by omega)).up (fun k => ?_) (fun k => ?_) ?_ ?_
          · rw [iv_ne (by omega)]
            exact w1 31 t k (by simp [wRt]) (by omega)
          · rw [iv_ne (by omega)]
            exact w1 32 t k (by simp [wRt]) (by omega)
          · show up3 S1.2.2.1 3 0 nT true 3 0 t = _
            simp only [up3]
            rw [if_neg (by omega)]
            exact w2 3 0 t (by omega)
          · exact w3 t e
      · show S1.2.2.2.2 = _
        rw [w5, hcnt]
        omega
      · rw [iv_ne (by omega)]
        exact w8
  · have : nT = 6 := by omega
    repeat (first | (refine hP _ _ _ _ _ _ ?_; show P _ _ _ _ _ _) | (refine hP _ _ _ _ _ _ (And.intro (hN _ _ _ rfl) ?_); show P _ _ (aR _ _ :: _) _ _ _))
    exact hP _ _ _ _ _ _ (hF this)
