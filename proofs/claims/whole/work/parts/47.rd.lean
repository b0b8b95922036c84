/-! The class: a text is read, and kept -/
def TXC (S : St) (nT : Nat) (tb : Nat → Tx) : Prop := 1 ≤ nT ∧ nT ≤ 6 ∧ S.1 1 0 1 = nI nT ∧ ∀ t, t < nT → TXt S t (tb t)
def tvG (tb : Nat → Tx) : TV := fun t p N => tvT (tb t) p N
theorem RV_of {S : St} {nT : Nat} {tb : Nat → Tx} (hN : NN S) (h : TXC S nT tb) : RV S nT (tvG tb) := by
  intro d S1 K t p N hd hT ht hp hnm hK
  obtain ⟨e31, e32, e1, e2⟩ := hT
  obtain ⟨f1, f2, f3, f4, f5, f6⟩ := h.2.2.2 t ht
  have hN1 : NN S1 := fun j g k hj => by rw [e2]; exact hN j g k hj
  refine q_value hd hN1 (T := tb t) ⟨f1, by rw [e2]; exact f2, by rw [e2]; exact f3, f4, fun k hk => by rw [e31]; exact f5 k hk, fun k hk => by rw [e32]; exact f6 k hk⟩ ht h.2.1 (by rw [e1]; exact h.2.2.1) hp hnm (fun S' g gl => hK S' ⟨fun j hj => ?_, Prod.ext gl g.2⟩)
  refine g.row (fun g' k z => ?_)
  have z : j = 5 := z
  subst z
  exact absurd hj (by decide)
theorem TXt.up {S S' : St} {t : Nat} {T : Tx} (h : TXt S t T) (h31 : ∀ k, S'.1 31 t k = S.1 31 t k) (h32 : ∀ k, S'.1 32 t k = S.1 32 t k) (h3 : S'.2.2.1 3 0 t = S.2.2.1 3 0 t) (hl : S'.2.2.2.1 t = S.2.2.2.1 t) : TXt S' t T := by
  obtain ⟨f1, f2, f3, f4, f5, f6⟩ := h
  exact ⟨f1, by rw [h3]; exact f2, by rw [hl]; exact f3, f4, fun k hk => by rw [h31]; exact f5 k hk, fun k hk => by rw [h32]; exact f6 k hk⟩
theorem TXC.ag {S S' : St} {nT : Nat} {tb : Nat → Tx} {W : WW} (h : TXC S nT tb) (h1 : Ag W S S') (hw : okW W) : TXC S' nT tb := by
  refine ⟨h.1, h.2.1, ?_, fun t ht => (h.2.2.2 t ht).up (fun k => ?_) (fun k => ?_) (by rw [h1.2]) (by rw [h1.2])⟩
  · rw [h1.1 1 0 1 (fun z => hw _ _ _ z (by omega))]; exact h.2.2.1
  · rw [h1.1 31 t k (fun z => hw _ _ _ z (by omega))]
  · rw [h1.1 32 t k (fun z => hw _ _ _ z (by omega))]
/-- what reading may change of the ints -/
def wRt : WW := fun j g k => (j = 7 ∧ g = 0 ∧ (k = 1 ∨ k = 3 ∨ (5 ≤ k ∧ k ≤ 9))) ∨ j = 9 ∨ j = 17
theorem wRd_t : ∀ j g k, wRd j g k → wRt j g k := by
  intro j g k h
  simp only [wRd] at h
  simp only [wRt]
  omega
theorem wLx_t : ∀ j g k, wLx j g k → wRt j g k := fun j g k h => wRd_t j g k (wLx_R j g k h)
/-- a new text's cells -/
def nwT (S S' : St) (n : Nat) (T : Tx) : Prop := (∀ j g k, ¬ wRt j g k → ¬ ((j = 31 ∨ j = 32 ∨ j = 30) ∧ g = n) → S'.1 j g k = S.1 j g k) ∧ (∀ j g k, ¬ ((j = 31 ∨ j = 32 ∨ j = 30) ∧ g = n) → S'.2.2.1 j g k = S.2.2.1 j g k) ∧ (∀ t, ¬ t = n → S'.2.2.2.1 t = S.2.2.2.1 t) ∧ S'.2.2.2.1 n = (cdT T).length ∧ S'.2.2.2.2 = S.2.2.2.2 + 3 ∧ (∀ k, k < (cdT T).length → S'.1 31 n k = nI ((cdT T).getD k 0)) ∧ (∀ p, p < 3 → S'.1 32 n p = nI (stT T p + (ptc T p).2.1.length)) ∧ S'.1 7 0 1 = 0
theorem idOf_new {n : Nat} (h : 1 ≤ n) : idOf (74 + 3 * n) = (31, n) ∧ idOf (74 + 3 * n + 1) = (30, n) ∧ idOf (74 + 3 * n + 2) = (32, n) := by
  have key : ∀ m, 77 ≤ m → idOf m = (if (m - 77) % 3 = 0 then 31 else if (m - 77) % 3 = 1 then 30 else 32, (m - 77) / 3 + 1) := by
    intro m hm
    have hn : nth idsT m = none := by
      rw [nth_get]
      exact List.getElem?_eq_none (by have : idsT.length = 77 := by decide +kernel
                                      omega)
    simp [idOf, hn]
  refine ⟨?_, ?_, ?_⟩
  · rw [key _ (by omega), if_pos (by omega)]
    congr 1
    omega
  · rw [key _ (by omega), if_neg (by omega), if_pos (by omega)]
    congr 1
    omega
  · rw [key _ (by omega), if_neg (by omega), if_neg (by omega)]
    congr 1
    omega
theorem r_next0 {d : Nat} {S : St} {K : KT} {T : Tx} (hd : 3 ≤ d) (hN : NN S) (hT : TP S T) (h3 : S.1 7 0 3 = nI 0) (h5 : S.1 7 0 5 = nI 0) (h9 : S.1 7 0 9 = nI 0) (h : ∀ S', Ag wRd S S' → RD S' T 0 [] 0 → K none S') : Call d m_X1_next [aR 7 0] S K := by
  refine q_next hd hN hT (Nat.zero_le _) h5 (fun S' g1 hL => h S' (g1.mono wLx_R) ⟨hT.lx g1, hL, Nat.zero_le _, ?_, fun k hk => by simp at hk, ?_⟩)
  · rw [g1.1 7 0 3 (by simp [wLx])]; exact h3
  · rw [g1.1 7 0 9 (by simp [wLx])]; exact h9
theorem RD.e {S : St} {T : Tx} {q o p : Nat} {cc : List Nat} {v : Int32} (h : RD S T q cc o) : RD (ivSet S 17 0 p v) T q cc o := by
  obtain ⟨r1, r2, r3, r4, r5, r6⟩ := h
  have g2 : Ag (fun j g k => j = 17) S (ivSet S 17 0 p v) := Ag.iv rfl
  refine ⟨r1.up g2 (fun k => by simp), ?_, r3, ?_, fun k hk => ?_, ?_⟩
  · obtain ⟨l1, l2, l3, l4⟩ := r2
    refine ⟨?_, ?_, ?_, fun z => ?_⟩
    · rw [g2.1 7 0 5 (by simp)]; exact l1
    · rw [g2.1 7 0 6 (by simp)]; exact l2
    · rw [g2.1 7 0 8 (by simp)]; exact l3
    · rw [g2.1 7 0 7 (by simp)]; exact l4 z
  · rw [g2.1 7 0 3 (by simp)]; exact r4
  · rw [g2.1 9 0 k (by simp)]; exact r5 k hk
  · rw [g2.1 7 0 9 (by simp)]; exact r6
/-- one part is read: pass(key), either(), pass(';') -/
theorem r_part {d p q : Nat} {S : St} {T : Tx} {cc : List Nat} {P : PT} {K : KT} (hd : 61 ≤ d) (hP : ∀ pc L st S fc fs, F m_X1_read (Call d) K P pc L st S fc fs → P pc L st S fc fs) (hp : p < 3) (hN : NN S) (hR : RD S T q cc 0) (hl : cc.length ≤ bg T q)
    (h1 : ∀ S', Ag wRd S S' → (pt T p q).1 = true → RD S' T (pt T p q).2.2 (cc ++ (pt T p q).2.1) 0 → P 60 [some (aR 7 0), some (aI 1), some (aI (nI p))] [] S' 0 0)
    (h0 : ∀ S', Ag wRd S S' → (pt T p q).1 = false → S'.1 7 0 8 = nI (bg T (pt T p q).2.2) → P 64 [some (aR 7 0), some (aI 1), some (aI (nI p))] [] S' 0 0) : P 38 [some (aR 7 0), some (aI 1), some (aI (nI p))] [aI (200 + nI p), aR 7 0] S 0 0 := by
  have h160 := hR.1.2.1
  rw [show (200 : Int32) + nI p = nI (200 + p) from nI_add 200 p]
  refine hP _ _ _ _ _ _ (r_pass (by omega) hN hR (by omega) (fun hk S2 g2 hR2 => ?_) (fun hk => ?_))
  · have hN2 := hN.up g2
    have hN := hN2
    have hE : pt T p q = (bif (P7 T 4000 0 (nx T q) 0 []).1 then (if kd T (P7 T 4000 0 (nx T q) 0 []).2.2 = 59 then (true, (P7 T 4000 0 (nx T q) 0 []).2.1, nx T (P7 T 4000 0 (nx T q) 0 []).2.2) else (false, [], (P7 T 4000 0 (nx T q) 0 []).2.2)) else P7 T 4000 0 (nx T q) 0 []) := if_pos hk
    have hb := nx_bg (T := T) (q := q) (by omega)
    have hrk : rk 0 = 10 := rfl
    have hdp : dp 0 = 10 := rfl
    repeat (first | (refine hP _ _ _ _ _ _ ?_; show P _ _ _ _ _ _) | (refine hP _ _ _ _ _ _ (And.intro (hN _ _ _ rfl) ?_); show P _ _ (aR _ _ :: _) _ _ _) | refine hP _ _ _ _ _ _ (And.intro (fun _ => ?_) (fun hc => absurd hc (by decide))) | refine hP _ _ _ _ _ _ (And.intro (fun hc => absurd hc (by decide)) (fun _ => ?_)))
    refine hP _ _ _ _ _ _ (c_all T 4000 0 (nx T q) 0 (by simp [okL]) (by omega) (by omega) (nx_le hR.2.2.1) (by omega) d S2 _ cc (by omega) hN2 hR2 (by omega) (fun S3 g3 e3 hR3 => ?_) (fun S3 g3 e3 b3 => ?_))
    · have hN3 := hN2.up g3
      have hN := hN3
      rw [e3] at hE
      simp only [cond] at hE
      repeat (first | (refine hP _ _ _ _ _ _ ?_; show P _ _ _ _ _ _) | (refine hP _ _ _ _ _ _ (And.intro (hN _ _ _ rfl) ?_); show P _ _ (aR _ _ :: _) _ _ _) | refine hP _ _ _ _ _ _ (And.intro (fun _ => ?_) (fun hc => absurd hc (by decide))) | refine hP _ _ _ _ _ _ (And.intro (fun hc => absurd hc (by decide)) (fun _ => ?_)))
      refine hP _ _ _ _ _ _ (r_pass (c := 59) (by omega) hN3 hR3 (by omega) (fun hk2 S4 g4 hR4 => ?_) (fun hk2 => ?_))
      · rw [if_pos hk2] at hE
        refine hP _ _ _ _ _ _ (And.intro (fun hc => absurd hc (by decide)) (fun _ => ?_))
        exact h1 S4 (g2.tr (g3.tr g4)) (by rw [hE]) (by rw [hE]; exact hR4)
      · rw [if_neg hk2] at hE
        refine hP _ _ _ _ _ _ (And.intro (fun _ => ?_) (fun hc => absurd rfl hc))
        exact h0 S3 (g2.tr g3) (by rw [hE]) (by rw [hE]; exact hR3.2.1.2.2.1)
    · rw [e3] at hE
      simp only [cond] at hE
      refine hP _ _ _ _ _ _ (And.intro (fun _ => ?_) (fun hc => absurd rfl hc))
      exact h0 S3 (g2.tr g3) (by rw [hE]; exact e3) (by rw [hE]; exact b3)
  · have hE : pt T p q = (false, [], q) := if_neg hk
    refine hP _ _ _ _ _ _ (And.intro (fun _ => ?_) (fun hc => absurd rfl hc))
    exact h0 S (Ag.rf _ _) (by rw [hE]) (by rw [hE]; exact hR.2.1.2.2.1)
theorem q_Text_init {d n : Nat} {S : St} {K : KT} (hd : 1 ≤ d) (h : K none (nnSet (nnSet S 30 n 0) 30 n 1)) : Call d m_X4_init [aR 30 n, aR 31 n, aR 32 n] S K := by
  refine Call.of (k := 0) hd (fun e he P hP => ?_)
  repeat (first | (refine hP _ _ _ _ _ _ ?_; show P _ _ _ _ _ _) | refine hP _ _ _ _ _ _ (And.intro (hN _ _ _ rfl) ?_))
  refine hP _ _ _ _ _ _ (And.intro rfl ?_)
  repeat (first | (refine hP _ _ _ _ _ _ ?_; show P _ _ _ _ _ _) | refine hP _ _ _ _ _ _ (And.intro (hN _ _ _ rfl) ?_))
  refine hP _ _ _ _ _ _ (And.intro rfl ?_)
  repeat (first | (refine hP _ _ _ _ _ _ ?_; show P _ _ _ _ _ _) | refine hP _ _ _ _ _ _ (And.intro (hN _ _ _ rfl) ?_))
  exact hP _ _ _ _ _ _ (h)
