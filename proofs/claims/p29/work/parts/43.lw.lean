/-! the law's turn: dancers come -/
theorem few_in {fc : Nat} {h : Prop} (hb : Nat.blt fc 1000 = true) (z : h) : few fc h := by
  unfold few
  rw [hb]
  exact z
theorem td_w {tv : TV} {F : Fl} {a : Nat} (ha : a < F.n) (h5 : F.n ≤ 5) : tdI tv F (nI a) 3 = nI (F.dn a) ∧ tdI tv F (nI a) 6 = nI (brN tv F a) ∧ tdI tv F (nI a) 7 = nI (oS F a) ∧ tdI tv F (nI a) 8 = nI (oT F a) := by
  have e : isD F.n (nI a) = true := by rw [isD_n (by omega) h5]; exact decide_eq_true ha
  have hc := nI_clamp (show a < 2 ^ 31 by omega)
  refine ⟨?_, ?_, ?_, ?_⟩ <;> simp [tdI, e, hc]
/-- n dancers, who owe nothing -/
def DF (n : Nat) (u : Nat → Nat) : Fl := mkF n 0 0 0 (fun _ => 0) u (fun _ => 0) (fun _ _ => 0)
theorem DF_jn (p : Nat) (u : Nat → Nat) (x : Nat) : SM (jnF (DF p u) 0 x) (DF (p + 1) (uN u p x)) := by
  refine ⟨rfl, rfl, rfl, rfl, fun a _ => ⟨?_, rfl, ?_⟩, fun a b _ _ => ?_⟩
  · show uN (fun _ => 0) p 0 a = 0
    unfold uN
    split <;> rfl
  · show uN (fun _ => 0) p 0 a = 0
    unfold uN
    split <;> rfl
  · show (if a = p ∨ b = p then 0 else 0) = 0
    split <;> rfl
theorem lw_1 {e : Nat} {P : PT} {K : KT} {t fc fs : Nat} (he : 300 ≤ e) (hP : ∀ pc L st S fc fs, F m_L_law (Call e) K P pc L st S fc fs → P pc L st S fc fs) {L n D : Nat} (hxs : ∀ pc ll st S fc fs, (S.2.2.2.1 1000 = L → P pc ll st S fc fs) → P pc ll st S fc fs) (hL : L ≤ 260) (h2 : 2 ≤ n) (h5 : n ≤ 5) (hnext : ∀ S u, LW S (DF n u) → P 43 [some (aR 60 0), some (aI (nI t)), some (aR 0 0), some (aI (nI n)), some (aI (nI D)), some (aI (nI n)), none, none, none, none, none, none] [aI (nI n), aI (nI n)] S fc fs) : ∀ p, p ≤ n → ∀ S u, LW S (DF p u) → P 43 [some (aR 60 0), some (aI (nI t)), some (aR 0 0), some (aI (nI n)), some (aI (nI D)), some (aI (nI p)), none, none, none, none, none, none] [aI (nI n), aI (nI p)] S fc fs := by
  refine dn ?_ ?_
  · exact hnext
  · intro p hp ih S u hS
    have hN : True := trivial
    rw [nI_succ p] at ih
    refine hP _ _ _ _ _ _ (And.intro (fun hc => absurd hc (nI_ge hp (by omega))) (fun _ => ?_))
    repeat (first | (refine hP _ _ _ _ _ _ ?_; show P _ _ _ _ _ _) | (refine hP _ _ _ _ _ _ (And.intro (hN _ _ _ rfl) ?_); show P _ _ (aR _ _ :: _) _ _ _))
    rw [show (6 : Int32) + nI p = nI (6 + p) from nI_add 6 p]
    refine hxs _ _ _ _ _ _ (fun q1 => ?_)
    refine hP _ _ _ _ _ _ (l_some (n := 10) (by omega) q1 hL (by omega) (by omega) (by omega) (fun x hx => ?_))
    repeat (first | (refine hP _ _ _ _ _ _ ?_; show P _ _ _ _ _ _) | (refine hP _ _ _ _ _ _ (And.intro (hN _ _ _ rfl) ?_); show P _ _ (aR _ _ :: _) _ _ _))
    refine hP _ _ _ _ _ _ (c_dancer (by omega) hS.1 hS.2.1 (fun hb => ?_) (fun k u' hk hu ex ey hF => ?_) (fun k u' hk hu ex ey hF S1 g1 hX1 hz1 => ?_))
    · exfalso
      have e1 : isD 6 (nI 0) = true := by rw [isD_N (by omega) (by omega)]; rfl
      have e2 : isD 10 (nI x) = true := by rw [isD_N (by omega) (by omega)]; exact decide_eq_true hx
      rcases hb with z | ⟨-, z⟩
      · exact absurd (e1.symm.trans z) (by decide)
      · exact absurd (e2.symm.trans z) (by decide)
    · exfalso
      have hF : p = 5 := hF
      omega
    · have ek : 0 = k := (nI_eq (by omega) (by omega)).mp ex
      have eu : x = u' := (nI_eq (by omega) (by omega)).mp ey
      subst ek
      subst eu
      have hS1 : LW S1 (DF (p + 1) (uN u p x)) := (hS.fl g1 hX1.2.1 hz1 hX1.2.2).sm (DF_jn p u x)
      show P _ _ [aI (nI p)] _ _ _
      repeat (first | (refine hP _ _ _ _ _ _ ?_; show P _ _ _ _ _ _) | (refine hP _ _ _ _ _ _ (And.intro (hN _ _ _ rfl) ?_); show P _ _ (aR _ _ :: _) _ _ _))
      refine hP _ _ _ _ _ _ (And.intro (fun hc => absurd hc (fun z => z rfl)) (fun _ => ?_))
      repeat (first | (refine hP _ _ _ _ _ _ ?_; show P _ _ _ _ _ _) | (refine hP _ _ _ _ _ _ (And.intro (hN _ _ _ rfl) ?_); show P _ _ (aR _ _ :: _) _ _ _))
      refine hP _ _ _ _ _ _ (c_told (w := 6) (by omega) hS1.1 (by omega) (fun S2 g2 => ?_))
      have hS2 := hS1.th (g2.mono w0_th)
      rw [(td_w (tv := tv0) (F := DF (p + 1) (uN u p x)) (show p < p + 1 by omega) (show p + 1 ≤ 5 by omega)).2.1, br0 rfl]
      have := ih S2 (uN u p x) hS2
      repeat (first | (refine hP _ _ _ _ _ _ ?_; show P _ _ _ _ _ _) | (refine hP _ _ _ _ _ _ (And.intro (hN _ _ _ rfl) ?_); show P _ _ (aR _ _ :: _) _ _ _))
      refine hP _ _ _ _ _ _ (And.intro (fun _ => ?_) (fun hc => absurd rfl hc))
      repeat (first | (refine hP _ _ _ _ _ _ ?_; show P _ _ _ _ _ _) | (refine hP _ _ _ _ _ _ (And.intro (hN _ _ _ rfl) ?_); show P _ _ (aR _ _ :: _) _ _ _))
      exact this
/-! the debts are laid -/
def SF (n D p : Nat) (u : Nat → Nat) : Fl := mkF n 0 0 0 (fun _ => 0) u (fun _ => 0) (fun a b => if a < p ∧ b = (a + 1) % n then D else 0)
theorem SF_0 (n D : Nat) (u : Nat → Nat) : SM (DF n u) (SF n D 0 u) := by
  refine ⟨rfl, rfl, rfl, rfl, fun a _ => ⟨rfl, rfl, rfl⟩, fun a b _ _ => ?_⟩
  show 0 = if a < 0 ∧ b = (a + 1) % n then D else 0
  rw [if_neg (by omega)]
theorem SF_n (n D : Nat) (u : Nat → Nat) : SM (SF n D n u) (RF n D u) := by
  refine ⟨rfl, rfl, rfl, rfl, fun a _ => ⟨rfl, rfl, rfl⟩, fun a b ha _ => ?_⟩
  have ha : a < n := ha
  show (if a < n ∧ b = (a + 1) % n then D else 0) = if b = (a + 1) % n then D else 0
  by_cases c : b = (a + 1) % n
  · rw [if_pos ⟨ha, c⟩, if_pos c]
  · rw [if_neg (fun z => c z.2), if_neg c]
theorem SF_s (n D p : Nat) (u : Nat → Nat) : SM (stF (SF n D p u) 4 p ((p + 1) % n) D) (SF n D (p + 1) u) := by
  refine ⟨rfl, rfl, rfl, rfl, fun a _ => ⟨rfl, rfl, rfl⟩, fun a b _ _ => ?_⟩
  show uN2 (fun a b => if a < p ∧ b = (a + 1) % n then D else 0) p ((p + 1) % n) D a b = if a < p + 1 ∧ b = (a + 1) % n then D else 0
  unfold uN2
  by_cases c : a = p ∧ b = (p + 1) % n
  · rw [if_pos c, if_pos ⟨by omega, by rw [c.1]; exact c.2⟩]
  · rw [if_neg c]
    show (if a < p ∧ b = (a + 1) % n then D else 0) = _
    by_cases c2 : b = (a + 1) % n
    · by_cases c3 : a < p
      · rw [if_pos ⟨c3, c2⟩, if_pos ⟨by omega, c2⟩]
      · rw [if_neg (fun z => c3 z.1), if_neg (fun z => c ⟨by omega, by rw [c2]; congr 1; omega⟩)]
    · rw [if_neg (fun z => c2 z.2), if_neg (fun z => c2 z.2)]
theorem lw_2 {e : Nat} {P : PT} {K : KT} {t fc fs : Nat} (he : 300 ≤ e) (hP : ∀ pc L st S fc fs, F m_L_law (Call e) K P pc L st S fc fs → P pc L st S fc fs) {n D : Nat} (h2 : 2 ≤ n) (h5 : n ≤ 5) (d1 : 1 ≤ D) (d9 : D ≤ 9) (hnext : ∀ S u, LW S (RF n D u) → P 96 [some (aR 60 0), some (aI (nI t)), some (aR 0 0), some (aI (nI n)), some (aI (nI D)), some (aI (nI (dgA n))), some (aI (nI n)), none, none, none, none, none] [aI (nI n), aI (nI n)] S fc fs) : ∀ p, p ≤ n → ∀ S u, LW S (SF n D p u) → P 96 [some (aR 60 0), some (aI (nI t)), some (aR 0 0), some (aI (nI n)), some (aI (nI D)), some (aI (nI (dgA p))), some (aI (nI p)), none, none, none, none, none] [aI (nI n), aI (nI p)] S fc fs := by
  refine dn ?_ ?_
  · exact fun S u hS => hnext S u (hS.sm (SF_n n D u))
  · intro p hp ih S u hS
    have hN : True := trivial
    have hq : (p + 1) % n < n := Nat.mod_lt _ (by omega)
    rw [nI_succ p] at ih
    refine hP _ _ _ _ _ _ (And.intro (fun hc => absurd hc (nI_ge hp (by omega))) (fun _ => ?_))
    repeat (first | (refine hP _ _ _ _ _ _ ?_; show P _ _ _ _ _ _) | (refine hP _ _ _ _ _ _ (And.intro (hN _ _ _ rfl) ?_); show P _ _ (aR _ _ :: _) _ _ _))
    refine hP _ _ _ _ _ _ (And.intro (nI_nz (by omega) (by omega)) ?_)
    rw [show nI p + 1 - (nI p + 1) / nI n * nI n = nI ((p + 1) % n) from by rw [nI_1]; exact pk_rem (by omega) (by omega) (by omega)]
    repeat (first | (refine hP _ _ _ _ _ _ ?_; show P _ _ _ _ _ _) | (refine hP _ _ _ _ _ _ (And.intro (hN _ _ _ rfl) ?_); show P _ _ (aR _ _ :: _) _ _ _))
    rw [show (10 : Int32) * nI p + nI ((p + 1) % n) = nI (10 * p + (p + 1) % n) from by rw [show (10 : Int32) = nI 10 from rfl, pk_mul, nI_add]]
    have hdp : dpx n (nI (10 * p + (p + 1) % n)) = some (p, (p + 1) % n) := by
      have e1 : (10 * p + (p + 1) % n) / 10 = p := by omega
      have e2 : (10 * p + (p + 1) % n) % 10 = (p + 1) % n := by omega
      have e3 : ¬ p = (p + 1) % n := by
        intro z
        by_cases c : p + 1 = n
        · rw [c, Nat.mod_self] at z
          omega
        · rw [Nat.mod_eq_of_lt (by omega)] at z
          omega
      rw [dpx_n (by omega), e1, e2, if_pos ⟨hp, hq, e3⟩]
    have h0 : tdI tv0 (SF n D p u) (nI (10 * p + (p + 1) % n)) 4 = nI 0 := by
      have e : dpx (SF n D p u).n (nI (10 * p + (p + 1) % n)) = some (p, (p + 1) % n) := hdp
      simp only [tdI, e]
      show nI (if p < p ∧ (p + 1) % n = (p + 1) % n then D else 0) = nI 0
      rw [if_neg (by omega)]
    refine hP _ _ _ _ _ _ (c_setx (w := 4) (a := p) (b := (p + 1) % n) (v := D) (by omega) hS.1 hS.2.2.1 hS.2.1 (show (0 : Nat) ≤ 999 by omega) (show (0 : Nat) ≤ 999 by omega) (by omega) (show D ≤ 99 by omega) (show (dpx n (nI (10 * p + (p + 1) % n))).isSome = true by rw [hdp]; rfl) (fun z => by omega) (fun _ => hdp) (fun S1 g1 hF1 hz1 => ?_))
    have hS1 : LW S1 (SF n D (p + 1) u) := (hS.fl g1 hF1 hz1 (hS.1.2.2.sO _ _ (by omega))).sm (SF_s n D p u)
    rw [h0]
    have := ih S1 u hS1
    rw [show nI (dgA (p + 1)) = (10 : Int32) * nI (dgA p) + nI p + 1 from by rw [show (10 : Int32) = nI 10 from rfl, pk_mul, nI_add, nI_1]; rfl] at this
    repeat (first | (refine hP _ _ _ _ _ _ ?_; show P _ _ _ _ _ _) | (refine hP _ _ _ _ _ _ (And.intro (hN _ _ _ rfl) ?_); show P _ _ (aR _ _ :: _) _ _ _))
    refine hP _ _ _ _ _ _ (And.intro (fun _ => ?_) (fun hc => absurd rfl hc))
    repeat (first | (refine hP _ _ _ _ _ _ ?_; show P _ _ _ _ _ _) | (refine hP _ _ _ _ _ _ (And.intro (hN _ _ _ rfl) ?_); show P _ _ (aR _ _ :: _) _ _ _))
    exact this
