/-! By how few rounds: what is cut off is right -/
theorem sN_up {f g : Nat → Nat} {a : Nat} : ∀ {n : Nat}, a < n → (∀ i, i < n → ¬ i = a → g i = f i) → sN g n + f a = sN f n + g a
  | 0, h, _ => by omega
  | n + 1, h, hg => by
    simp only [sN]
    by_cases e : a = n
    · subst e
      rw [sN_congr (f := g) (g := f) (fun i hi => hg i (by omega) (by omega))]
      omega
    · have := sN_up (f := f) (g := g) (a := a) (n := n) (by omega) (fun i hi hne => hg i (by omega) hne)
      rw [hg n (by omega) (fun z => e z.symm)]
      omega
theorem sN_0 {f : Nat → Nat} : ∀ {n : Nat}, sN f n = 0 → ∀ i, i < n → f i = 0
  | 0, _, i, hi => by omega
  | n + 1, h, i, hi => by
    have h : sN f n + f n = 0 := h
    by_cases e : i = n
    · rw [e]; omega
    · exact sN_0 (f := f) (n := n) (by omega) i (by omega)
theorem sN_z {f : Nat → Nat} : ∀ {n : Nat}, (∀ i, i < n → f i = 0) → sN f n = 0
  | 0, _ => rfl
  | n + 1, h => by
    simp only [sN]
    rw [sN_z (fun i hi => h i (by omega)), h n (by omega)]
theorem oA_0 {F : Fl} (h : oA F = 0) {a b : Nat} (ha : a < F.n) (hb : b < F.n) : F.ow a b = 0 := sN_0 (sN_0 h a ha) b hb
theorem oA_sO {F : Fl} {a b v : Nat} (ha : a < F.n) (hb : b < F.n) : oA (F.sO a b v) + F.ow a b = oA F + v := by
  have h1 : oS (F.sO a b v) a + F.ow a b = oS F a + v := by
    have := sN_up (f := fun x => F.ow a x) (g := fun x => (F.sO a b v).ow a x) (a := b) (n := F.n) hb (fun i _ hne => by
      show uN2 F.ow a b v a i = _
      unfold uN2
      rw [if_neg (fun z => hne z.2)])
    have e : (F.sO a b v).ow a b = v := by
      show uN2 F.ow a b v a b = _
      unfold uN2
      rw [if_pos ⟨rfl, rfl⟩]
    rw [e] at this
    exact this
  have h2 := sN_up (f := fun x => oS F x) (g := fun x => oS (F.sO a b v) x) (a := a) (n := F.n) ha (fun i _ hne => by
    refine sN_congr (fun y _ => ?_)
    show uN2 F.ow a b v i y = _
    unfold uN2
    rw [if_neg (fun z => hne z.1)])
  have h3 : oA (F.sO a b v) = sN (fun x => oS (F.sO a b v) x) F.n := rfl
  have h4 : oA F = sN (fun x => oS F x) F.n := rfl
  omega
theorem oA_sl {F : Fl} {a b p q : Nat} (ha : a < F.n) (hb : b < F.n) (hab : ¬ a = b) (hp : p ≤ F.ow a b) (hq : q ≤ F.ow b a) : oA (slN F a b p q) + (p + q) = oA F := by
  have h1 := oA_sO (F := F) (a := a) (b := b) (v := F.ow a b - p) ha hb
  have h2 := oA_sO (F := F.sO a b (F.ow a b - p)) (a := b) (b := a) (v := F.ow b a - q) hb ha
  have e : (F.sO a b (F.ow a b - p)).ow b a = F.ow b a := by
    show uN2 F.ow a b _ b a = _
    unfold uN2
    rw [if_neg (fun z => hab z.1.symm)]
  have e2 : oA (slN F a b p q) = oA ((F.sO a b (F.ow a b - p)).sO b a (F.ow b a - q)) := rfl
  rw [e] at h2
  omega
theorem ds_wf {tv : TV} {nT i : Nat} {F : Fl} (hW : WF nT F) (hi : i < 26) (hok : okS tv F i = true) : ∀ k, k ≤ 10 → WF nT (dsN tv F i k) ∧ oA (dsN tv F i k) + sN (fun k => cond (sb i k) (spN tv F (prA k) (prB k)) 0) k = oA F
  | 0, _ => ⟨hW, rfl⟩
  | k + 1, hk => by
    obtain ⟨h1, h2⟩ := ds_wf hW hi hok k (by omega)
    obtain ⟨p1, p2⟩ := pr_lt k (by omega)
    by_cases hs : sb i k = true
    · have hlt := okN_lt (okS_iff.mp hok k (by omega) hs)
      obtain ⟨d1, d2⟩ := ds_step (tv := tv) (F := F) hi (show k < 10 by omega) hs
      have nk := (dsN_n tv F i k).1
      have o1 := h1.ow (a := prA k) (b := prB k) (by omega) (by omega)
      have o2 := h1.ow (a := prB k) (b := prA k) (by omega) (by omega)
      have hsl := oA_sl (F := dsN tv F i k) (a := prA k) (b := prB k) (p := pyN tv (dsN tv F i k) (prA k) ((dsN tv F i k).ow (prA k) (prB k))) (q := pyN tv (dsN tv F i k) (prB k) ((dsN tv F i k).ow (prB k) (prA k))) (by omega) (by omega) (by omega) (pyN_le _ _ _ (by omega)) (pyN_le _ _ _ (by omega))
      have hwf := h1.st (tv := tv) (a := prA k) (b := prB k) (by omega) (by omega)
      rw [d1] at hwf
      refine ⟨hwf, ?_⟩
      have d2' : pyN tv (dsN tv F i k) (prA k) ((dsN tv F i k).ow (prA k) (prB k)) + pyN tv (dsN tv F i k) (prB k) ((dsN tv F i k).ow (prB k) (prA k)) = spN tv F (prA k) (prB k) := d2
      have d1' : slN (dsN tv F i k) (prA k) (prB k) (pyN tv (dsN tv F i k) (prA k) ((dsN tv F i k).ow (prA k) (prB k))) (pyN tv (dsN tv F i k) (prB k) ((dsN tv F i k).ow (prB k) (prA k))) = dsN tv F i (k + 1) := d1
      rw [d1', d2'] at hsl
      show oA (dsN tv F i (k + 1)) + (sN (fun k => cond (sb i k) (spN tv F (prA k) (prB k)) 0) k + cond (sb i k) (spN tv F (prA k) (prB k)) 0) = oA F
      rw [hs, show cond true (spN tv F (prA k) (prB k)) 0 = spN tv F (prA k) (prB k) from rfl]
      omega
    · have hs' : sb i k = false := by simpa using hs
      have e : dsN tv F i (k + 1) = dsN tv F i k := if_neg hs
      rw [e]
      refine ⟨h1, ?_⟩
      show oA (dsN tv F i k) + (sN (fun k => cond (sb i k) (spN tv F (prA k) (prB k)) 0) k + cond (sb i k) (spN tv F (prA k) (prB k)) 0) = oA F
      rw [hs', show cond false (spN tv F (prA k) (prB k)) 0 = 0 from rfl]
      omega
theorem ds_all {tv : TV} {nT i : Nat} {F : Fl} (hW : WF nT F) (hi : i < 26) (hok : okS tv F i = true) : WF nT (dsF tv F i) ∧ oA (dsF tv F i) + pdN tv F i = oA F := by
  obtain ⟨h1, h2⟩ := ds_wf hW hi hok 10 (by omega)
  exact ⟨h1.sR _, h2⟩
theorem ds_0 (tv : TV) (F : Fl) : ∀ k, k ≤ 10 → dsN tv F 0 k = F
  | 0, _ => rfl
  | k + 1, hk => by
    have e : dsN tv F 0 (k + 1) = dsN tv F 0 k := if_neg (by rw [sb_0 k (by omega)]; decide)
    rw [e]
    exact ds_0 tv F k (by omega)
theorem cl_0 (tv : TV) : ∀ n (F : Fl), oA F = 0 → clN tv n F = true
  | 0, F, h => decide_eq_true h
  | n + 1, F, h => by
    refine an_iff.mpr ⟨0, by omega, ?_⟩
    have e : dsF tv F 0 = F.sR (F.rd + 1) := by
      unfold dsF
      rw [ds_0 tv F 10 (by omega)]
    rw [okS_0, e, cl_0 tv n (F.sR (F.rd + 1)) h]
    rfl
/-- which debts a set touches -/
theorem dsN_ow (tv : TV) (F : Fl) (i : Nat) : ∀ k x y, (∀ j, j < k → sb i j = true → ¬ (x = prA j ∧ y = prB j) ∧ ¬ (x = prB j ∧ y = prA j)) → (dsN tv F i k).ow x y = F.ow x y
  | 0, _, _, _ => rfl
  | k + 1, x, y, h => by
    have ih := dsN_ow tv F i k x y (fun j hj => h j (by omega))
    by_cases hs : sb i k = true
    · have e : dsN tv F i (k + 1) = slN (dsN tv F i k) (prA k) (prB k) (pyN tv F (prA k) (F.ow (prA k) (prB k))) (pyN tv F (prB k) (F.ow (prB k) (prA k))) := if_pos hs
      obtain ⟨n1, n2⟩ := h k (by omega) hs
      rw [e]
      show uN2 (uN2 (dsN tv F i k).ow _ _ _) _ _ _ x y = _
      unfold uN2
      rw [if_neg n2, if_neg n1]
      exact ih
    · rw [show dsN tv F i (k + 1) = dsN tv F i k from if_neg hs]
      exact ih
theorem sN_one {f g : Nat → Nat} {b : Nat} : ∀ {n : Nat}, (∀ i, i < n → ¬ i = b → g i = f i) → (∀ i, f i ≤ 1) → sN f n ≤ sN g n + 1
  | 0, _, _ => Nat.zero_le _
  | n + 1, h, h1 => by
    simp only [sN]
    by_cases e : b = n
    · have := sN_congr (f := g) (g := f) (n := n) (fun i hi => h i (by omega) (by omega))
      have := h1 n
      omega
    · have := sN_one (f := f) (g := g) (b := b) (n := n) (fun i hi hne => h i (by omega) hne) h1
      have := h n (by omega) (fun z => e z.symm)
      omega
theorem mt_step {tv : TV} {F : Fl} {i a : Nat} (hi : i < 26) : mtN F a ≤ mtN (dsF tv F i) a + 1 := by
  have hex : ∃ b0, ∀ b, ¬ b = b0 → (dsN tv F i 10).ow a b = F.ow a b ∧ (dsN tv F i 10).ow b a = F.ow b a := by
    by_cases hj : ∃ j, j < 10 ∧ sb i j = true ∧ (prA j = a ∨ prB j = a)
    · obtain ⟨j, hj10, hsj, hja⟩ := hj
      refine ⟨if prA j = a then prB j else prA j, fun b hb => ?_⟩
      have no : ∀ j', j' < 10 → sb i j' = true → ¬ (a = prA j' ∧ b = prB j') ∧ ¬ (a = prB j' ∧ b = prA j') := by
        intro j' h10 hs'
        by_cases ejj : j' = j
        · subst ejj
          obtain ⟨p1, p2⟩ := pr_lt j' h10
          constructor
          · rintro ⟨r1, r2⟩
            rw [if_pos r1.symm] at hb
            exact hb r2
          · rintro ⟨r1, r2⟩
            rw [if_neg (by omega)] at hb
            exact hb r2
        · have ap := sb_apart i hi j hj10 j' h10 hsj hs' ejj
          constructor
          · rintro ⟨r1, r2⟩
            rcases hja with z | z
            · exact ap.1 (by omega)
            · exact ap.2.1 (by omega)
          · rintro ⟨r1, r2⟩
            rcases hja with z | z
            · exact ap.2.2.1 (by omega)
            · exact ap.2.2.2 (by omega)
      refine ⟨dsN_ow tv F i 10 a b no, dsN_ow tv F i 10 b a (fun j' h10 hs' => ?_)⟩
      have := no j' h10 hs'
      exact ⟨fun z => this.2 ⟨z.2, z.1⟩, fun z => this.1 ⟨z.2, z.1⟩⟩
    · have no : ∀ b j', j' < 10 → sb i j' = true → ¬ (a = prA j' ∧ b = prB j') ∧ ¬ (a = prB j' ∧ b = prA j') := by
        intro b j' h10 hs'
        exact ⟨fun z => hj ⟨j', h10, hs', Or.inl z.1.symm⟩, fun z => hj ⟨j', h10, hs', Or.inr z.1.symm⟩⟩
      refine ⟨a, fun b _ => ⟨dsN_ow tv F i 10 a b (no b), dsN_ow tv F i 10 b a (fun j' h10 hs' => ?_)⟩⟩
      have := no b j' h10 hs'
      exact ⟨fun z => this.2 ⟨z.2, z.1⟩, fun z => this.1 ⟨z.2, z.1⟩⟩
  obtain ⟨b0, hb0⟩ := hex
  have e : mtN (dsF tv F i) a = sN (fun b => if 0 < (dsN tv F i 10).ow a b ∨ 0 < (dsN tv F i 10).ow b a then 1 else 0) F.n := by
    show sN _ (dsN tv F i 10).n = _
    rw [(dsN_n tv F i 10).1]
    rfl
  rw [e]
  refine sN_one (b := b0) (fun b _ hne => ?_) (fun b => by split <;> omega)
  obtain ⟨e1, e2⟩ := hb0 b hne
  rw [e1, e2]
theorem cl_mt {tv : TV} : ∀ n (F : Fl), clN tv n F = true → ∀ a, a < F.n → mtN F a ≤ n
  | 0, F, h, a, ha => by
    have h0 : oA F = 0 := of_decide_eq_true h
    have : mtN F a = 0 := sN_z (fun b hb => by
      rw [oA_0 h0 ha hb, oA_0 h0 hb ha]
      rfl)
    omega
  | n + 1, F, h, a, ha => by
    obtain ⟨i, hi, hc⟩ := an_iff.mp h
    simp only [Bool.and_eq_true] at hc
    have := cl_mt n (dsF tv F i) hc.2 a (by
      show a < (dsN tv F i 10).n
      rw [(dsN_n tv F i 10).1]
      exact ha)
    have := mt_step (tv := tv) (F := F) (a := a) hi
    omega
theorem mm_le {F : Fl} {m : Nat} : ∀ k, (∀ a, a < k → mtN F a ≤ m) → mmN F k ≤ m
  | 0, _ => Nat.zero_le _
  | k + 1, h => by
    simp only [mmN]
    split
    · exact h k (by omega)
    · exact mm_le k (fun a ha => h a (by omega))
theorem cl_cut {tv : TV} {n : Nat} {F : Fl} (h : n < mmN F F.n) : clN tv n F = false := by
  cases e : clN tv n F with
  | false => rfl
  | true =>
    have := mm_le (F := F) (m := n) F.n (cl_mt n F e)
    omega
theorem bi_max (tv : TV) (F : Fl) : ∀ k, ∀ i, i < k → okS tv F i = true → pdN tv F i ≤ pdN tv F (biN tv F k)
  | 0, i, hi, _ => by omega
  | k + 1, i, hi, ho => by
    have ih := bi_max tv F k i
    simp only [biN]
    split
    · rename_i hc
      by_cases e : i = k
      · rw [e]
        exact Nat.le_refl _
      · have := ih (by omega) ho
        omega
    · rename_i hc
      by_cases e : i = k
      · subst e
        apply Classical.byContradiction
        intro z
        exact hc ⟨ho, by omega⟩
      · exact ih (by omega) ho
theorem cl_1 {tv : TV} {nT : Nat} {F : Fl} (hW : WF nT F) : clN tv 1 F = decide (pdN tv F (biN tv F 26) = oA F) := by
  obtain ⟨b1, b2'⟩ := biN_in tv F 26 (Nat.le_refl _)
  have hb := (ds_all hW b1 b2').2
  by_cases h : pdN tv F (biN tv F 26) = oA F
  · rw [decide_eq_true h]
    refine an_iff.mpr ⟨biN tv F 26, b1, ?_⟩
    rw [b2']
    show decide (oA (dsF tv F (biN tv F 26)) = 0) = true
    exact decide_eq_true (by omega)
  · rw [decide_eq_false h]
    cases e : clN tv 1 F with
    | false => rfl
    | true =>
      obtain ⟨i, hi, hc⟩ := an_iff.mp e
      simp only [Bool.and_eq_true] at hc
      have h0 : oA (dsF tv F i) = 0 := of_decide_eq_true hc.2
      have h1 := (ds_all hW hi hc.1).2
      have h2 := bi_max tv F 26 i hi hc.1
      exact absurd (by omega) h
