/-! THE WHOLE STATE, of the class and of the model -/
abbrev Shs : Type := Nat → Nat × Nat × (Nat → Int32)
def PV (F : Fl) (I : Option Fl) (nT : Nat) : Prop := WF nT F ∧ F.rd ≤ 999 ∧ F.ni ≤ 999 ∧ ∀ G, I = some G → WF nT G ∧ G.rd ≤ 999 ∧ G.ni ≤ 999 ∧ G.n ≤ F.n ∧ ∀ a, a < G.n → G.ki a = F.ki a
def grN (k : Nat) : Nat := [999, 999, 9, 99, 99].getD k 0
def unI (k : Nat) : Int32 := [-1, 0, 0, 1, 2, 0].getD k 0
/-- the static rows -/
def STA (S : St) : Prop := (∀ k, k < 10 → S.1 61 0 k = nI (prA k) ∧ S.1 62 0 k = nI (prB k)) ∧ (∀ k, k < 26 → S.1 63 0 k = nI (setN k)) ∧ (∀ k, k < 5 → S.1 64 0 k = nI (grN k)) ∧ ∀ k, k < 6 → S.1 65 0 k = unI k
def IMc (S : St) (I : Option Fl) : Prop := match I with
  | none => S.1 0 0 6 = 0
  | some G => S.1 0 0 6 = 1 ∧ HF S 1 G ∧ zB S 1 G.n
def SHc (S : St) (sh : Shs) : Prop := ∀ g, g < 4 → S.1 20 g 0 = nI (sh g).1 - 1 ∧ (sh g).1 ≤ 3 ∧ S.1 20 g 1 = nI (sh g).2.1 ∧ (sh g).2.1 ≤ 40 ∧ ∀ k, k < (sh g).2.1 → S.1 21 g k = (sh g).2.2 k
def CR (S : St) (F : Fl) (I : Option Fl) (sh : Shs) (T : Tx) (nT : Nat) (tb : Nat → Tx) : Prop := TXC S nT tb ∧ STA S ∧ HF S 0 F ∧ zB S 0 F.n ∧ IMc S I ∧ SHc S sh ∧ TP S T
def IMm (S : St) (I : Option Fl) : Prop := match I with
  | none => S.1 40 0 37 = -1
  | some G => S.1 40 0 37 = nI G.n ∧ S.1 40 0 38 = nI G.rd ∧ S.1 40 0 39 = nI G.ni ∧ S.1 40 0 40 = nI G.ru ∧ (∀ a, a < G.n → S.1 54 0 (2 * a) = nI (G.nu a) ∧ S.1 54 0 (2 * a + 1) = nI (G.dn a)) ∧ ∀ a b, a < G.n → b < G.n → S.1 53 0 (5 * a + b) = nI (G.ow a b)
def SHm (S : St) (sh : Shs) : Prop := ∀ g, g < 4 → (S.1 55 0 g = if (sh g).1 = 0 then 0 else 1) ∧ ((sh g).1 ≠ 0 → S.1 56 0 g = nI (sh g).1 - 1 ∧ S.1 57 0 g = nI (sh g).2.1 ∧ ∀ k, k < (sh g).2.1 → S.1 58 0 (40 * g + k) = (sh g).2.2 k)
def TPm (S : St) (T : Tx) : Prop := S.1 40 0 6 = nI T.1 ∧ ∀ k, k < T.1 → S.1 43 0 k = nI (T.2 k)
def MR (S : St) (F : Fl) (I : Option Fl) (sh : Shs) (T : Tx) (nT : Nat) (tb : Nat → Tx) : Prop := MTC S nT tb ∧ (∀ k, k < 26 → S.1 47 0 k = nI (setN k)) ∧ HM S F ∧ IMm S I ∧ SHm S sh ∧ TPm S T
def TT (S : St) (F : Fl) (I : Option Fl) (sh : Shs) (T : Tx) (nT : Nat) (tb : Nat → Tx) : Prop := NN S ∧ PV F I nT ∧ S.2.2.2.2 = 74 + 3 * nT ∧ CR S F I sh T nT tb ∧ MR S F I sh T nT tb
def TTx (S : St) : Prop := ∃ F I sh T nT tb, TT S F I sh T nT tb
theorem TT.fx {S : St} {F : Fl} {I : Option Fl} {sh : Shs} {T : Tx} {nT : Nat} {tb : Nat → Tx} (h : TT S F I sh T nT tb) : FX (tvG tb) nT S 0 F :=
  ⟨⟨h.1, RV_of h.1 h.2.2.2.1.1, h.2.2.2.1.2.1.1, h.2.2.2.1.2.1.2.1⟩, h.2.2.2.1.2.2.1, h.2.1.1⟩
theorem mx_of {S : St} {F : Fl} {I : Option Fl} {sh : Shs} {T : Tx} {nT : Nat} {tb : Nat → Tx} (hN : NN S) (hW : WF nT F) (h : MR S F I sh T nT tb) : MX (tvG tb) nT S F :=
  ⟨⟨hN, RM_of hN h.1, h.2.1⟩, h.2.2.1, hW⟩
theorem STA.up {S S' : St} {W : WW} (h : STA S) (h1 : Ag W S S') (hw : ∀ j g k, W j g k → ¬ 60 ≤ j) : STA S' := by
  refine ⟨fun k hk => ?_, fun k hk => ?_, fun k hk => ?_, fun k hk => ?_⟩
  · rw [h1.1 61 0 k (fun z => hw _ _ _ z (by omega)), h1.1 62 0 k (fun z => hw _ _ _ z (by omega))]
    exact h.1 k hk
  · rw [h1.1 63 0 k (fun z => hw _ _ _ z (by omega))]
    exact h.2.1 k hk
  · rw [h1.1 64 0 k (fun z => hw _ _ _ z (by omega))]
    exact h.2.2.1 k hk
  · rw [h1.1 65 0 k (fun z => hw _ _ _ z (by omega))]
    exact h.2.2.2 k hk
theorem zB.up {S S' : St} {W : WW} {f n : Nat} (h : zB S f n) (h1 : Ag W S S') (hw : ∀ j k, W j f k → ¬ (j = 13 ∨ j = 14)) : zB S' f n := by
  refine ⟨fun a ha h5 => ?_, fun a b ha hb hn => ?_⟩
  · rw [h1.1 13 f a (fun z => hw _ _ z (by omega))]
    exact h.1 a ha h5
  · rw [h1.1 14 f _ (fun z => hw _ _ z (by omega))]
    exact h.2 a b ha hb hn
theorem IMc.up {S S' : St} {W : WW} {I : Option Fl} (h : IMc S I) (h1 : Ag W S S') (hw : ∀ j g k, W j g k → ¬ (j = 0 ∧ k = 6) ∧ ¬ (g = 1 ∧ (11 ≤ j ∧ j ≤ 14 ∨ j = 10 ∧ 1 ≤ k ∧ k ≤ 4))) : IMc S' I := by
  cases I with
  | none =>
    show S'.1 0 0 6 = 0
    rw [h1.1 0 0 6 (fun z => (hw _ _ _ z).1 ⟨rfl, rfl⟩)]
    exact h
  | some G =>
    refine ⟨?_, h.2.1.up h1 (fun j k z => ?_), h.2.2.up h1 (fun j k z => ?_)⟩
    · rw [h1.1 0 0 6 (fun z => (hw _ _ _ z).1 ⟨rfl, rfl⟩)]
      exact h.1
    · have := (hw _ _ _ z).2
      omega
    · have := (hw _ _ _ z).2
      omega
theorem SHc.up {S S' : St} {W : WW} {sh : Shs} (h : SHc S sh) (h1 : Ag W S S') (hw : ∀ j g k, W j g k → ¬ (j = 20 ∨ j = 21)) : SHc S' sh := by
  intro g hg
  obtain ⟨a1, a2, a3, a4, a5⟩ := h g hg
  refine ⟨?_, a2, ?_, a4, fun k hk => ?_⟩
  · rw [h1.1 20 g 0 (fun z => hw _ _ _ z (by omega))]; exact a1
  · rw [h1.1 20 g 1 (fun z => hw _ _ _ z (by omega))]; exact a3
  · rw [h1.1 21 g k (fun z => hw _ _ _ z (by omega))]; exact a5 k hk
/-- what a class's method may change that leaves the state but floor 0 -/
def wFl : WW := fun j g k => j = 4 ∨ j = 5 ∨ j = 19 ∨ (10 ≤ j ∧ j ≤ 16 ∧ (g = 0 ∨ 2 ≤ g))
def wTH : WW := fun j g k => j = 4 ∨ j = 5 ∨ j = 19 ∨ (10 ≤ j ∧ j ≤ 16 ∧ (2 ≤ g ∨ (g = 0 ∧ (15 ≤ j ∨ (j = 10 ∧ 9 ≤ k)))))
theorem CR.fl {S S' : St} {F F' : Fl} {I : Option Fl} {sh : Shs} {T : Tx} {nT : Nat} {tb : Nat → Tx} (h : CR S F I sh T nT tb) (h1 : Ag wFl S S') (hF : HF S' 0 F') (hz : zB S' 0 F'.n) : CR S' F' I sh T nT tb := by
  obtain ⟨c1, c2, c3, c4, c5, c6, c7⟩ := h
  refine ⟨c1.ag h1 (fun j g k z => by simp only [wFl] at z; omega), c2.up h1 (fun j g k z => by simp only [wFl] at z; omega), hF, hz, c5.up h1 (fun j g k z => by simp only [wFl] at z; omega), c6.up h1 (fun j g k z => by simp only [wFl] at z; omega), c7.up h1 (fun k => by simp [wFl])⟩
theorem wTH_fl : ∀ j g k, wTH j g k → wFl j g k := by
  intro j g k z
  simp only [wTH] at z
  simp only [wFl]
  omega
theorem CR.th {S S' : St} {F : Fl} {I : Option Fl} {sh : Shs} {T : Tx} {nT : Nat} {tb : Nat → Tx} (h : CR S F I sh T nT tb) (h1 : Ag wTH S S') : CR S' F I sh T nT tb :=
  h.fl (h1.mono wTH_fl) (h.2.2.1.up h1 (fun j k z => by simp only [wTH] at z; omega)) (h.2.2.2.1.up h1 (fun j k z => by simp only [wTH] at z; omega))
/-- the other side's -/
def wMo : WW := fun j _ _ => 40 ≤ j ∧ j < 60
def wCl : WW := fun j _ _ => j < 40
theorem CR.mo {S S' : St} {F : Fl} {I : Option Fl} {sh : Shs} {T : Tx} {nT : Nat} {tb : Nat → Tx} (h : CR S F I sh T nT tb) (h1 : Ag wMo S S') : CR S' F I sh T nT tb := by
  obtain ⟨c1, c2, c3, c4, c5, c6, c7⟩ := h
  exact ⟨c1.ag h1 (fun j g k z => by simp only [wMo] at z; omega), c2.up h1 (fun j g k z => by simp only [wMo] at z; omega), c3.up h1 (fun j k z => by simp only [wMo] at z; omega), c4.up h1 (fun j k z => by simp only [wMo] at z; omega), c5.up h1 (fun j g k z => by simp only [wMo] at z; omega), c6.up h1 (fun j g k z => by simp only [wMo] at z; omega), c7.up h1 (fun k => by simp [wMo])⟩
theorem MTC.up {S S' : St} {nT : Nat} {tb : Nat → Tx} (h : MTC S nT tb) (h1 : ∀ j g k, 40 ≤ j → j ≤ 42 → (j = 40 → k = 3) → S'.1 j g k = S.1 j g k) : MTC S' nT tb := by
  refine ⟨h.1, h.2.1, by rw [h1 40 0 3 (by omega) (by omega) (fun _ => rfl)]; exact h.2.2.1, fun t ht => ?_⟩
  obtain ⟨f1, f2, f3⟩ := h.2.2.2 t ht
  exact ⟨f1, ⟨f2.1, f2.2.1, fun k hk => by rw [h1 41 0 _ (by omega) (by omega) (by omega)]; exact f2.2.2 k hk⟩, by rw [h1 42 0 t (by omega) (by omega) (by omega)]; exact f3⟩
theorem IMm.up {S S' : St} {I : Option Fl} (h : IMm S I) (h1 : ∀ j g k, j = 40 ∧ 37 ≤ k ∨ j = 53 ∨ j = 54 → S'.1 j g k = S.1 j g k) : IMm S' I := by
  cases I with
  | none =>
    show S'.1 40 0 37 = -1
    rw [h1 40 0 37 (by omega)]
    exact h
  | some G =>
    obtain ⟨a1, a2, a3, a4, a5, a6⟩ := h
    refine ⟨?_, ?_, ?_, ?_, fun a ha => ⟨?_, ?_⟩, fun a b ha hb => ?_⟩
    · rw [h1 40 0 37 (by omega)]; exact a1
    · rw [h1 40 0 38 (by omega)]; exact a2
    · rw [h1 40 0 39 (by omega)]; exact a3
    · rw [h1 40 0 40 (by omega)]; exact a4
    · rw [h1 54 0 _ (by omega)]; exact (a5 a ha).1
    · rw [h1 54 0 _ (by omega)]; exact (a5 a ha).2
    · rw [h1 53 0 _ (by omega)]; exact a6 a b ha hb
theorem SHm.up {S S' : St} {sh : Shs} (h : SHm S sh) (h1 : ∀ j g k, 55 ≤ j → j ≤ 58 → S'.1 j g k = S.1 j g k) : SHm S' sh := by
  intro g hg
  obtain ⟨a1, a2⟩ := h g hg
  refine ⟨by rw [h1 55 0 g (by omega) (by omega)]; exact a1, fun hn => ?_⟩
  obtain ⟨b1, b2', b3⟩ := a2 hn
  refine ⟨?_, ?_, fun k hk => ?_⟩
  · rw [h1 56 0 g (by omega) (by omega)]; exact b1
  · rw [h1 57 0 g (by omega) (by omega)]; exact b2'
  · rw [h1 58 0 _ (by omega) (by omega)]; exact b3 k hk
theorem TPm.up {S S' : St} {T : Tx} (h : TPm S T) (h1 : ∀ j g k, j = 40 ∧ k = 6 ∨ j = 43 → S'.1 j g k = S.1 j g k) : TPm S' T :=
  ⟨by rw [h1 40 0 6 (by omega)]; exact h.1, fun k hk => by rw [h1 43 0 k (by omega)]; exact h.2 k hk⟩
/-- what a model's method may change that leaves all but the floor -/
def mFl : WW := fun j _ k => (j = 40 ∧ (14 ≤ k ∧ k ≤ 29 ∨ k = 4 ∨ k = 7 ∨ k = 8 ∨ k = 12)) ∨ (44 ≤ j ∧ j ≤ 46) ∨ (48 ≤ j ∧ j ≤ 52)
theorem MR.fl {S S' : St} {F F' : Fl} {I : Option Fl} {sh : Shs} {T : Tx} {nT : Nat} {tb : Nat → Tx} (h : MR S F I sh T nT tb) (h1 : Ag mFl S S') (hF : HM S' F') : MR S' F' I sh T nT tb := by
  obtain ⟨m1, m2, m3, m4, m5, m6⟩ := h
  exact ⟨m1.up (fun j g k a b c => h1.1 j g k (by simp only [mFl]; omega)), fun k hk => by rw [h1.1 47 0 k (by simp [mFl])]; exact m2 k hk, hF, m4.up (fun j g k a => h1.1 j g k (by simp only [mFl]; omega)), m5.up (fun j g k a b => h1.1 j g k (by simp only [mFl]; omega)), m6.up (fun j g k a => h1.1 j g k (by simp only [mFl]; omega))⟩
theorem MR.th {S S' : St} {F : Fl} {I : Option Fl} {sh : Shs} {T : Tx} {nT : Nat} {tb : Nat → Tx} (h : MR S F I sh T nT tb) (h1 : Ag mTh S S') : MR S' F I sh T nT tb :=
  h.fl (h1.mono (fun j g k z => by simp only [mTh] at z; simp only [mFl]; omega)) (h.2.2.1.up h1 mTh_G)
theorem MR.cl {S S' : St} {F : Fl} {I : Option Fl} {sh : Shs} {T : Tx} {nT : Nat} {tb : Nat → Tx} (h : MR S F I sh T nT tb) (h1 : ∀ j g k, 40 ≤ j → S'.1 j g k = S.1 j g k) : MR S' F I sh T nT tb := by
  obtain ⟨m1, m2, m3, m4, m5, m6⟩ := h
  refine ⟨m1.up (fun j g k a b c => h1 j g k a), fun k hk => by rw [h1 47 0 k (by omega)]; exact m2 k hk, ?_, m4.up (fun j g k a => h1 j g k (by omega)), m5.up (fun j g k a b => h1 j g k (by omega)), m6.up (fun j g k a => h1 j g k (by omega))⟩
  obtain ⟨a1, a2, a3, a4, a5, a6⟩ := m3
  refine ⟨by rw [h1 40 0 12 (by omega)]; exact a1, by rw [h1 40 0 7 (by omega)]; exact a2, by rw [h1 40 0 8 (by omega)]; exact a3, by rw [h1 40 0 4 (by omega)]; exact a4, fun a ha => ?_, fun a b ha hb => ?_⟩
  · rw [h1 44 0 a (by omega), h1 45 0 _ (by omega), h1 45 0 _ (by omega)]
    exact a5 a ha
  · rw [h1 46 0 _ (by omega)]
    exact a6 a b ha hb
theorem MR.ac {S S' : St} {F : Fl} {I : Option Fl} {sh : Shs} {T : Tx} {nT : Nat} {tb : Nat → Tx} {W : WW} (h : MR S F I sh T nT tb) (h1 : Ag W S S') (hw : ∀ j g k, W j g k → j < 40) : MR S' F I sh T nT tb :=
  h.cl (fun j g k hj => h1.1 j g k (fun z => by have := hw _ _ _ z; omega))
/-- a call of the class, and the same of the model: they answer alike -/
def OpA (mc mm : MT) (as : List AV) (ok : AV → Prop) : Prop := ∀ (d : Nat) (S : St) (K : KT), 200 ≤ d → TTx S → (∀ (S1 : St) (x : AV), ok x → S1.2.2.2.2 ≤ S.2.2.2.2 + 3 → (∀ (d' : Nat) (K' : KT), 200 ≤ d' → (∀ S2, TTx S2 → K' (some x) S2) → Call d' mm (aR 40 0 :: as) S1 K') → K (some x) S1) → Call d mc (aR 0 0 :: as) S K
def isI (x : AV) : Prop := ∃ i : Int32, x = aI i
def isLo (x : AV) : Prop := ∃ i : Int64, x = aL i
/-- a thinking op: the class's and the model's floors stay -/
theorem TT.th2 {S S1 S2 : St} {F : Fl} {I : Option Fl} {sh : Shs} {T : Tx} {nT : Nat} {tb : Nat → Tx} (h : TT S F I sh T nT tb) (h1 : Ag wTH S S1) (h2 : Ag mTh S1 S2) : TT S2 F I sh T nT tb := by
  obtain ⟨t1, t2, t3, t4, t5⟩ := h
  refine ⟨(t1.up h1).up h2, t2, by rw [h2.2, h1.2]; exact t3, (t4.th h1).mo (h2.mono (fun j g k z => by simp only [mTh] at z; simp only [wMo]; omega)), ?_⟩
  exact (t5.ac h1 (fun j g k z => by simp only [wTH] at z; omega)).th h2
theorem TT.m1 {S S1 : St} {F : Fl} {I : Option Fl} {sh : Shs} {T : Tx} {nT : Nat} {tb : Nat → Tx} (h : TT S F I sh T nT tb) (h1 : Ag wTH S S1) : MX (tvG tb) nT S1 F :=
  mx_of (h.1.up h1) h.2.1.1 (h.2.2.2.2.ac h1 (fun j g k z => by simp only [wTH] at z; omega))
/-- an op that changes the floors -/
theorem TT.fl2 {S S1 S2 : St} {F F' : Fl} {I : Option Fl} {sh : Shs} {T : Tx} {nT : Nat} {tb : Nat → Tx} (h : TT S F I sh T nT tb) (h1 : Ag wFl S S1) (hF : HF S1 0 F') (hz : zB S1 0 F'.n) (h2 : Ag mFl S1 S2) (hM : HM S2 F') (hp : PV F' I nT) : TT S2 F' I sh T nT tb := by
  obtain ⟨t1, t2, t3, t4, t5⟩ := h
  refine ⟨(t1.up h1).up h2, hp, by rw [h2.2, h1.2]; exact t3, (t4.fl h1 hF hz).mo (h2.mono (fun j g k z => by simp only [mFl] at z; simp only [wMo]; omega)), ?_⟩
  exact (t5.ac h1 (fun j g k z => by simp only [wFl] at z; omega)).fl h2 hM
theorem TT.m2 {S S1 : St} {F : Fl} {I : Option Fl} {sh : Shs} {T : Tx} {nT : Nat} {tb : Nat → Tx} (h : TT S F I sh T nT tb) (h1 : Ag wFl S S1) : MX (tvG tb) nT S1 F :=
  mx_of (h.1.up h1) h.2.1.1 (h.2.2.2.2.ac h1 (fun j g k z => by simp only [wFl] at z; omega))
