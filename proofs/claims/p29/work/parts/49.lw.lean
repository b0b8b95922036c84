/-! the law's turn, whole -/
theorem lw_turn {e : Nat} {P : PT} {K : KT} {t L fc fs : Nat} {S : St} (he : 300 ≤ e) (hP : ∀ pc L st S fc fs, F m_L_law (Call e) K P pc L st S fc fs → P pc L st S fc fs) (hxs : ∀ pc ll st S fc fs, (S.2.2.2.1 1000 = L → P pc ll st S fc fs) → P pc ll st S fc fs) (hL : L ≤ 260) (ht : t < 3) (hb : Nat.blt fc 1000 = true) (hfc : fc + 58 ≤ 600000) (hfs : fs + 1074 ≤ 7302250) (hc : S.2.2.2.2 = 0) (z0 : ∀ j g k, j < 60 → S.1 j g k = 0) (n0 : ∀ j g k, S.2.2.1 j g k = true) (sta : STA S)
    (hnext : ∀ (S' : St) (Lx : List (Option AV)), nth Lx 0 = some (some (aR 60 0)) → nth Lx 1 = some (some (aI (nI (t + 1)))) → Lx.length = 12 → P 4 Lx [aI 3, aI (nI (t + 1))] S' (fc + 58) (fs + 1074)) : P 4 [some (aR 60 0), some (aI (nI t)), none, none, none, none, none, none, none, none, none, none] [aI 3, aI (nI t)] S fc fs := by
  have hN : True := trivial
  have body : ∀ n D, 2 ≤ n → n ≤ 5 → 1 ≤ D → D ≤ 9 → ∀ S, LW S (DF 0 (fun _ => 0)) → P 43 [some (aR 60 0), some (aI (nI t)), some (aR 0 0), some (aI (nI n)), some (aI (nI D)), some (aI (nI 0)), none, none, none, none, none, none] [aI (nI n), aI (nI 0)] S (fc + 58) (fs + 1074) := by
    intro n D h2 h5 d1 d9 S hS
    have s11 := fun (u : Nat → Nat) (S : St) (x5 x6 x7 x8 x9 x10 : Int32) (hS : LW S (enF (rdF tv0 (RF n D u)))) =>
      lw_11 (t := t) (fc := fc + 58) (fs := fs + 1074) (D := D) (d5 := x5) (d6 := x6) (d7 := x7) (d8 := x8) (d9 := x9) (d10 := x10) (d11 := nI n) he hP h2 h5 ((enF_all (rdF tv0 (RF n D u))).1.trans (rdF_all tv0 (RF n D u)).1) ((enF_all (rdF tv0 (RF n D u))).2.1.trans (rdF_all tv0 (RF n D u)).2.1) (fun a => by rw [(enF_all (rdF tv0 (RF n D u))).2.2.2.1, (rdF_all tv0 (RF n D u)).2.2.2]; rfl) (fun S => hnext S _ rfl rfl rfl) hS
    have s9 := fun (u : Nat → Nat) (S : St) (x5 x6 x7 x8 : Int32) (x9 : Option AV) (hS : LW S (RF n D u)) =>
      lw_9 (t := t) (fc := fc + 58) (fs := fs + 1074) (d5 := x5) (d6 := x6) (d7 := x7) (d8 := x8) (x9 := x9) he hP h2 h5 d1 d9 u (fun S y9 y10 hS => s11 u S x5 x6 x7 x8 y9 y10 hS) hS
    have s8 := fun (u : Nat → Nat) (S : St) (x5 x6 x7 : Int32) (x8 x9 : Option AV) (hS : LW S (RF n D u)) =>
      lw_8 (t := t) (fc := fc + 58) (fs := fs + 1074) (d5 := x5) (d6 := x6) (d7 := x7) (x8 := x8) (x9 := x9) he hP h2 h5 d1 d9 u (fun S y8 hS => s9 u S x5 x6 x7 y8 x9 hS) hS
    have s7 := fun (u : Nat → Nat) (S : St) (x5 x6 x7 : Int32) (hS : LW S (RF n D u)) =>
      lw_7e (t := t) (fc := fc + 58) (fs := fs + 1074) (d5 := x5) (d6 := x6) (d7 := x7) he hP h2 h5 d1 d9 u (fun S y8 y9 hS => s8 u S x5 x6 x7 y8 y9 hS) hS
    have s6 := fun (u : Nat → Nat) (S : St) (x5 x6 x7 : Int32) (hS : LW S (RF n D u)) =>
      lw_6 (t := t) (fc := fc + 58) (fs := fs + 1074) (d5 := x5) (d6 := x6) (d7 := x7) he hP h2 h5 d1 d9 u (fun S y7 hS => s7 u S x5 x6 y7 hS) hS
    have s4 := fun (u : Nat → Nat) (S : St) (hS : LW S (RF n D u)) =>
      lw_4 (t := t) (fc := fc + 58) (fs := fs + 1074) he hP h2 h5 d1 d9 u (fun S hS => s6 u S (nI (dgA n)) (nI (rvA n n)) (nI 0) hS) hS
    have s2 := fun (u : Nat → Nat) (S : St) (hS : LW S (RF n D u)) =>
      lw_2e (t := t) (fc := fc + 58) (fs := fs + 1074) (d5 := nI (dgA n)) he hP h2 h5 d1 d9 u (fun S hS => s4 u S hS) hS
    refine lw_1 (t := t) (fc := fc + 58) (fs := fs + 1074) he hP hxs hL h2 h5 (fun S u hS => ?_) 0 (Nat.zero_le _) S (fun _ => 0) hS
    have := lw_2 (t := t) (fc := fc + 58) (fs := fs + 1074) he hP h2 h5 d1 d9 (fun S u hS => s2 u S hS) 0 (Nat.zero_le _) S u (hS.sm (SF_0 n D u))
    refine hP _ _ _ _ _ _ (And.intro (fun _ => ?_) (fun hc => absurd (nI_le (Nat.le_refl n) (by omega)) hc))
    repeat (first | (refine hP _ _ _ _ _ _ ?_; show P _ _ _ _ _ _) | (refine hP _ _ _ _ _ _ (And.intro (hN _ _ _ rfl) ?_); show P _ _ (aR _ _ :: _) _ _ _))
    exact this
  refine hP _ _ _ _ _ _ (And.intro (fun hc => absurd hc (nI_ge (b := 3) ht (by decide))) (fun _ => ?_))
  refine hP _ _ _ _ _ _ ?_
  show few fc _
  refine few_in hb (Exists.intro 0 (Exists.intro 0 ⟨by rw [hc]; rfl, rfl, (by show fc + 1 ≤ 600000; omega), (by show fs + 8 ≤ 7302250; omega), (fun z => by cases z), ?_⟩))
  repeat (first | (refine hP _ _ _ _ _ _ ?_; show P _ _ _ _ _ _) | (refine hP _ _ _ _ _ _ (And.intro (hN _ _ _ rfl) ?_); show P _ _ (aR _ _ :: _) _ _ _))
  refine hP _ _ _ _ _ _ (And.intro (by show fc + 1 + 57 ≤ 600000; omega) (And.intro (by show fs + 8 + 1066 ≤ 7302250; omega) (q_Class_init (by omega) (by show S.2.2.2.2 + 1 = 1; rw [hc]) (fun S1 e1 c1 a0 a6 a7 a18 a10 a20 r => And.intro (fun _ => by rw [c1]; show 58 = S.2.2.2.2 + 1 + 57; rw [hc]) ?_))))
  have hS1 : LW S1 (DF 0 (fun _ => 0)) := law_LW z0 n0 sta e1 a0 a6 a7 a18 a10 (fun g hg => (a20 g hg).1) r
  repeat (first | (refine hP _ _ _ _ _ _ ?_; show P _ _ _ _ _ _) | (refine hP _ _ _ _ _ _ (And.intro (hN _ _ _ rfl) ?_); show P _ _ (aR _ _ :: _) _ _ _))
  refine hxs _ _ _ _ _ _ (fun q1 => ?_)
  refine hP _ _ _ _ _ _ (l_some (n := 4) (by omega) q1 hL (by omega) (by omega) (by omega) (fun m hm => ?_))
  repeat (first | (refine hP _ _ _ _ _ _ ?_; show P _ _ _ _ _ _) | (refine hP _ _ _ _ _ _ (And.intro (hN _ _ _ rfl) ?_); show P _ _ (aR _ _ :: _) _ _ _))
  rw [show (3 : Int32) + nI t = nI (3 + t) from nI_add 3 t, show (2 : Int32) + nI m = nI (2 + m) from nI_add 2 m]
  refine hP _ _ _ _ _ _ (l_some (n := 9) (by omega) q1 hL (by omega) (by omega) (by omega) (fun m2 hm2 => ?_))
  have := body (2 + m) (1 + m2) (by omega) (by omega) (by omega) (by omega) S1 hS1
  repeat (first | (refine hP _ _ _ _ _ _ ?_; show P _ _ _ _ _ _) | (refine hP _ _ _ _ _ _ (And.intro (hN _ _ _ rfl) ?_); show P _ _ (aR _ _ :: _) _ _ _))
  rw [show (1 : Int32) + nI m2 = nI (1 + m2) from nI_add 1 m2]
  exact this
