/-! TEXTS: their tokens, what is made of them -/
abbrev Tx : Type := Nat × (Nat → Nat)
def isSp (c : Nat) : Bool := decide (c = 32 ∨ c = 10)
def isDg (c : Nat) : Bool := decide (48 ≤ c ∧ c ≤ 57)
def isLt (c : Nat) : Bool := decide (97 ≤ c ∧ c ≤ 122)
def isSg (c : Nat) : Bool := decide (c = 40 ∨ c = 41 ∨ c = 59 ∨ c = 43 ∨ c = 45 ∨ c = 42 ∨ c = 60 ∨ c = 61)
def rn (p : Nat → Bool) (T : Tx) : Nat → Nat → Nat
  | 0, k => k
  | m + 1, k => if k < T.1 ∧ p (T.2 k) = true then rn p T m (k + 1) else k
theorem rn_ge (p : Nat → Bool) (T : Tx) : ∀ m k, k ≤ rn p T m k
  | 0, k => Nat.le_refl k
  | m + 1, k => by
    simp only [rn]
    split
    · have := rn_ge p T m (k + 1)
      omega
    · exact Nat.le_refl k
theorem rn_le (p : Nat → Bool) (T : Tx) : ∀ m k, k ≤ T.1 → rn p T m k ≤ T.1
  | 0, k, h => h
  | m + 1, k, h => by
    simp only [rn]
    split
    · rename_i hc
      exact rn_le p T m (k + 1) hc.1
    · exact h
/-- where a run from k on ends -/
def lf (p : Nat → Bool) (T : Tx) (k : Nat) : Nat := rn p T (T.1 - k) k
theorem lf_s {p : Nat → Bool} {T : Tx} {k : Nat} (h : k < T.1 ∧ p (T.2 k) = true) : lf p T k = lf p T (k + 1) := by
  unfold lf
  obtain ⟨m, hm⟩ : ∃ m, T.1 - k = m + 1 := ⟨T.1 - k - 1, by omega⟩
  rw [hm, show T.1 - (k + 1) = m by omega]
  simp only [rn]
  rw [if_pos h]
theorem lf_n {p : Nat → Bool} {T : Tx} {k : Nat} (h : ¬ (k < T.1 ∧ p (T.2 k) = true)) : lf p T k = k := by
  unfold lf
  cases hm : T.1 - k with
  | zero => rfl
  | succ m =>
    simp only [rn]
    rw [if_neg h]
theorem lf_ge (p : Nat → Bool) (T : Tx) (k : Nat) : k ≤ lf p T k := rn_ge p T _ k
theorem lf_le (p : Nat → Bool) (T : Tx) {k : Nat} (h : k ≤ T.1) : lf p T k ≤ T.1 := rn_le p T _ k h
theorem lf_gt {p : Nat → Bool} {T : Tx} {k : Nat} (h : k < T.1 ∧ p (T.2 k) = true) : k < lf p T k := by
  rw [lf_s h]
  exact lf_ge p T (k + 1)
theorem lf_in {p : Nat → Bool} {T : Tx} : ∀ (m k : Nat), T.1 - k = m → ∀ i, k ≤ i → i < lf p T k → p (T.2 i) = true
  | 0, k, hm, i, h1, h2 => by
    rw [lf_n (by omega)] at h2
    omega
  | m + 1, k, hm, i, h1, h2 => by
    by_cases hc : k < T.1 ∧ p (T.2 k) = true
    · by_cases e : i = k
      · rw [e]
        exact hc.2
      · rw [lf_s hc] at h2
        exact lf_in m (k + 1) (by omega) i (by omega) h2
    · rw [lf_n hc] at h2
      omega
/-- where the token from q on begins -/
def bg (T : Tx) (q : Nat) : Nat := lf isSp T q
def nvN (T : Tx) (s : Nat) : Nat → Nat
  | 0 => 0
  | m + 1 => nvN T s m * 10 + (T.2 (s + m) - 48)
def wdE (T : Tx) (s len : Nat) (w : List Nat) : Bool := decide (len = w.length) && al (fun i => decide (T.2 (s + i) = w.getD i 0)) w.length
def kwL : List (List Nat × Nat) := [([112, 97, 121, 115], 200), ([119, 105, 108, 108, 115], 201), ([98, 114, 101, 97, 116, 104], 202), ([111, 114], 203), ([97, 110, 100], 204), ([110, 111, 116], 205), ([100, 101, 98, 116], 10000), ([111, 119, 101, 100], 10001), ([110, 117, 109, 98, 101, 114], 10002), ([114, 111, 117, 110, 100], 10003), ([100, 111, 110, 101], 10004), ([110, 105, 103, 104, 116], 10005)]
def kwK (T : Tx) (s len : Nat) : List (List Nat × Nat) → Nat
  | [] => 1
  | a :: l => if wdE T s len a.1 = true then a.2 else kwK T s len l
/-- the kind of the token from q on; where the next one is looked for; a number's value -/
def kd (T : Tx) (q : Nat) : Nat :=
  if T.1 ≤ bg T q then 0
  else if isDg (T.2 (bg T q)) = true then (if 4 < lf isDg T (bg T q) - bg T q then 1 else 2)
  else if isLt (T.2 (bg T q)) = true then kwK T (bg T q) (lf isLt T (bg T q) - bg T q) kwL
  else if isSg (T.2 (bg T q)) = true then T.2 (bg T q) else 1
def nx (T : Tx) (q : Nat) : Nat :=
  if T.1 ≤ bg T q then bg T q
  else if isDg (T.2 (bg T q)) = true then lf isDg T (bg T q)
  else if isLt (T.2 (bg T q)) = true then lf isLt T (bg T q)
  else bg T q + 1
def vlT (T : Tx) (q : Nat) : Nat := nvN T (bg T q) (lf isDg T (bg T q) - bg T q)
theorem bg_ge (T : Tx) (q : Nat) : q ≤ bg T q := lf_ge _ T q
theorem bg_le {T : Tx} {q : Nat} (h : q ≤ T.1) : bg T q ≤ T.1 := lf_le _ T h
theorem kwK_pos (T : Tx) (s len : Nat) : ∀ l : List (List Nat × Nat), (∀ a ∈ l, a.2 ≠ 0) → kwK T s len l ≠ 0
  | [], _ => by simp [kwK]
  | a :: l, h => by
    simp only [kwK]
    split
    · exact h a List.mem_cons_self
    · exact kwK_pos T s len l (fun x hx => h x (List.mem_cons_of_mem _ hx))
theorem kd_0 {T : Tx} {q : Nat} : kd T q = 0 ↔ T.1 ≤ bg T q := by
  unfold kd
  constructor
  · intro h
    apply Classical.byContradiction
    intro hc
    rw [if_neg hc] at h
    split at h
    · split at h <;> omega
    · split at h
      · exact kwK_pos T _ _ kwL (by decide) h
      · split at h
        · rename_i hs
          rw [h] at hs
          exact absurd hs (by decide)
        · omega
  · intro h
    rw [if_pos h]
theorem kd_lt {T : Tx} {q : Nat} (h : kd T q ≠ 0) : bg T q < T.1 := by
  apply Classical.byContradiction
  intro z
  exact h (kd_0.mpr (by omega))
theorem nx_le {T : Tx} {q : Nat} (h : q ≤ T.1) : nx T q ≤ T.1 := by
  have := bg_le h
  unfold nx
  split
  · exact this
  · split
    · exact lf_le _ T this
    · split
      · exact lf_le _ T this
      · omega
theorem nx_gt {T : Tx} {q : Nat} (h : bg T q < T.1) : bg T q < nx T q := by
  unfold nx
  rw [if_neg (by omega)]
  split
  · rename_i hc
    exact lf_gt ⟨h, hc⟩
  · split
    · rename_i hc
      exact lf_gt ⟨h, hc⟩
    · omega
theorem nx_bg {T : Tx} {q : Nat} (h : kd T q ≠ 0) : bg T q + 1 ≤ bg T (nx T q) := by
  have h1 := nx_gt (kd_lt h)
  have h2 := bg_ge T (nx T q)
  omega
/-- the code that is made at a level (0 either, 1 both, 2 not, 3 compared, 4 sum, 5 term, 6 one; 10, 11, 14, 15: the rest of a row, c being made already): could it be read, the code, where the token ahead is looked for -/
abbrev RP : Type := Bool × List Nat × Nat
def P7 (T : Tx) : Nat → Nat → Nat → Nat → List Nat → RP
  | 0, _, q, _, c => (false, c, q)
  | n + 1, l, q, o, c => match l with
    | 0 => bif (P7 T n 1 q o []).1 then P7 T n 10 (P7 T n 1 q o []).2.2 o (P7 T n 1 q o []).2.1 else P7 T n 1 q o []
    | 10 => if kd T q = 203 then (bif (P7 T n 1 (nx T q) o []).1 then P7 T n 10 (P7 T n 1 (nx T q) o []).2.2 o (c ++ (P7 T n 1 (nx T q) o []).2.1 ++ [10008]) else P7 T n 1 (nx T q) o []) else (true, c, q)
    | 1 => bif (P7 T n 2 q o []).1 then P7 T n 11 (P7 T n 2 q o []).2.2 o (P7 T n 2 q o []).2.1 else P7 T n 2 q o []
    | 11 => if kd T q = 204 then (bif (P7 T n 2 (nx T q) o []).1 then P7 T n 11 (P7 T n 2 (nx T q) o []).2.2 o (c ++ (P7 T n 2 (nx T q) o []).2.1 ++ [10009]) else P7 T n 2 (nx T q) o []) else (true, c, q)
    | 2 => if kd T q = 205 then (if 5 ≤ o then (false, [], q) else bif (P7 T n 2 (nx T q) (o + 1) []).1 then (true, (P7 T n 2 (nx T q) (o + 1) []).2.1 ++ [10007], (P7 T n 2 (nx T q) (o + 1) []).2.2) else P7 T n 2 (nx T q) (o + 1) []) else P7 T n 3 q o []
    | 3 => bif (P7 T n 4 q o []).1 then (if kd T (P7 T n 4 q o []).2.2 = 60 ∨ kd T (P7 T n 4 q o []).2.2 = 61 then (bif (P7 T n 4 (nx T (P7 T n 4 q o []).2.2) o []).1 then (true, (P7 T n 4 q o []).2.1 ++ (P7 T n 4 (nx T (P7 T n 4 q o []).2.2) o []).2.1 ++ [if kd T (P7 T n 4 q o []).2.2 = 60 then 10010 else 10011], (P7 T n 4 (nx T (P7 T n 4 q o []).2.2) o []).2.2) else P7 T n 4 (nx T (P7 T n 4 q o []).2.2) o []) else P7 T n 4 q o []) else P7 T n 4 q o []
    | 4 => bif (P7 T n 5 q o []).1 then P7 T n 14 (P7 T n 5 q o []).2.2 o (P7 T n 5 q o []).2.1 else P7 T n 5 q o []
    | 14 => if kd T q = 43 ∨ kd T q = 45 then (bif (P7 T n 5 (nx T q) o []).1 then P7 T n 14 (P7 T n 5 (nx T q) o []).2.2 o (c ++ (P7 T n 5 (nx T q) o []).2.1 ++ [if kd T q = 43 then 10012 else 10013]) else P7 T n 5 (nx T q) o []) else (true, c, q)
    | 5 => bif (P7 T n 6 q o []).1 then P7 T n 15 (P7 T n 6 q o []).2.2 o (P7 T n 6 q o []).2.1 else P7 T n 6 q o []
    | 15 => if kd T q = 42 then (bif (P7 T n 6 (nx T q) o []).1 then P7 T n 15 (P7 T n 6 (nx T q) o []).2.2 o (c ++ (P7 T n 6 (nx T q) o []).2.1 ++ [10014]) else P7 T n 6 (nx T q) o []) else (true, c, q)
    | 6 => if kd T q = 2 then (true, [vlT T q], nx T q) else if 10000 ≤ kd T q then (true, [kd T q], nx T q)
      else if kd T q = 45 then (if 5 ≤ o then (false, [], q) else bif (P7 T n 6 (nx T q) (o + 1) []).1 then (true, (P7 T n 6 (nx T q) (o + 1) []).2.1 ++ [10006], (P7 T n 6 (nx T q) (o + 1) []).2.2) else P7 T n 6 (nx T q) (o + 1) [])
      else if kd T q = 40 then (if 5 ≤ o then (false, [], q) else bif (P7 T n 0 (nx T q) (o + 1) []).1 then (if kd T (P7 T n 0 (nx T q) (o + 1) []).2.2 = 41 then (true, (P7 T n 0 (nx T q) (o + 1) []).2.1, nx T (P7 T n 0 (nx T q) (o + 1) []).2.2) else (false, [], (P7 T n 0 (nx T q) (o + 1) []).2.2)) else P7 T n 0 (nx T q) (o + 1) [])
      else (false, [], q)
    | _ => (false, c, q)
/-- how it goes on: where it came to, and how long the code is -/
def PI (T : Tx) (l q : Nat) (c : List Nat) (r : RP) : Prop := r.2.2 ≤ T.1 ∧ (r.1 = true → bg T q + r.2.1.length ≤ bg T r.2.2 + (if 10 ≤ l then c.length else 0) ∧ bg T q ≤ bg T r.2.2 ∧ (l < 10 → bg T q + 1 ≤ bg T r.2.2))
theorem PI.lt {T : Tx} {l l1 q : Nat} {c c1 : List Nat} {r : RP} (h : PI T l1 q c1 r) (h1 : l1 < 10) (h2 : l < 10) : PI T l q c r := by
  refine ⟨h.1, fun z => ?_⟩
  have a := h.2 z
  have a3 := a.2.2 h1
  simp only [show ¬ 10 ≤ l1 by omega, if_false, show ¬ 10 ≤ l by omega] at a ⊢
  exact ⟨a.1, a.2.1, fun _ => a3⟩
def okL (l : Nat) : Prop := l = 0 ∨ l = 1 ∨ l = 2 ∨ l = 3 ∨ l = 4 ∨ l = 5 ∨ l = 6 ∨ l = 10 ∨ l = 11 ∨ l = 14 ∨ l = 15
theorem P7_in (T : Tx) : ∀ n l q o c, okL l → q ≤ T.1 → PI T l q c (P7 T n l q o c)
  | 0, l, q, o, c, _, h => ⟨h, fun z => by cases z⟩
  | n + 1, l, q, o, c, hl, h => by
    have ih := P7_in T n
    have fail : ∀ l c', PI T l q c (false, c', q) := fun l c' => ⟨h, fun z => by cases z⟩
    have row : ∀ (l l1 l2 : Nat), l1 < 10 → 10 ≤ l2 → l < 10 → okL l1 → okL l2 → PI T l q c (bif (P7 T n l1 q o []).1 then P7 T n l2 (P7 T n l1 q o []).2.2 o (P7 T n l1 q o []).2.1 else P7 T n l1 q o []) := by
      intro l l1 l2 h1 h2 h3 k1 k2
      have a := ih l1 q o [] k1 h
      generalize P7 T n l1 q o [] = r at a
      obtain ⟨rb, rc, rq⟩ := r
      cases rb with
      | false => exact ⟨a.1, fun z => by cases z⟩
      | true =>
        have b := ih l2 rq o rc k2 a.1
        have a2 := a.2 rfl
        simp only [cond]
        generalize P7 T n l2 rq o rc = r2 at b
        refine ⟨b.1, fun z => ?_⟩
        have b2 := b.2 z
        have a3 := a2.2.2 h1
        simp only [h2, if_true, show ¬ 10 ≤ l1 by omega, if_false, show ¬ 10 ≤ l by omega] at a2 b2 a3 ⊢
        exact ⟨by omega, by omega, fun _ => by omega⟩
    have loop : ∀ (l l1 op : Nat), l1 < 10 → 10 ≤ l → okL l1 → okL l → kd T q ≠ 0 → PI T l q c (bif (P7 T n l1 (nx T q) o []).1 then P7 T n l (P7 T n l1 (nx T q) o []).2.2 o (c ++ (P7 T n l1 (nx T q) o []).2.1 ++ [op]) else P7 T n l1 (nx T q) o []) := by
      intro l l1 op h1 h2 k1 k2 h0
      have hb := nx_bg h0
      have a := ih l1 (nx T q) o [] k1 (nx_le h)
      generalize P7 T n l1 (nx T q) o [] = r at a
      obtain ⟨rb, rc, rq⟩ := r
      cases rb with
      | false => exact ⟨a.1, fun z => by cases z⟩
      | true =>
        have b := ih l rq o (c ++ rc ++ [op]) k2 a.1
        have a2 := a.2 rfl
        simp only [cond]
        generalize P7 T n l rq o (c ++ rc ++ [op]) = r2 at b
        refine ⟨b.1, fun z => ?_⟩
        have b2 := b.2 z
        have a3 := a2.2.2 h1
        simp only [h2, if_true, show ¬ 10 ≤ l1 by omega, if_false, List.length_append, List.length_singleton] at a2 b2 a3 ⊢
        exact ⟨by omega, by omega, fun _ => by omega⟩
    have stop : ∀ l, 10 ≤ l → PI T l q c (true, c, q) := by
      intro l h2
      refine ⟨h, fun _ => ?_⟩
      simp only [h2, if_true]
      exact ⟨by omega, by omega, fun _ => by omega⟩
    have un : ∀ (l l1 op : Nat), l1 < 10 → l < 10 → okL l1 → kd T q ≠ 0 → PI T l q c (if 5 ≤ o then (false, [], q) else bif (P7 T n l1 (nx T q) (o + 1) []).1 then (true, (P7 T n l1 (nx T q) (o + 1) []).2.1 ++ [op], (P7 T n l1 (nx T q) (o + 1) []).2.2) else P7 T n l1 (nx T q) (o + 1) []) := by
      intro l l1 op h1 h2 k1 h0
      have hb := nx_bg h0
      split
      · exact fail l []
      · have a := ih l1 (nx T q) (o + 1) [] k1 (nx_le h)
        generalize P7 T n l1 (nx T q) (o + 1) [] = r at a
        obtain ⟨rb, rc, rq⟩ := r
        cases rb with
        | false => exact ⟨a.1, fun z => by cases z⟩
        | true =>
          have a2 := a.2 rfl
          have a3 := a2.2.2 h1
          refine ⟨a.1, fun _ => ?_⟩
          simp only [show ¬ 10 ≤ l1 by omega, if_false, show ¬ 10 ≤ l by omega, cond, List.length_append, List.length_singleton] at a2 a3 ⊢
          exact ⟨by omega, by omega, fun _ => by omega⟩
    rcases hl with rfl | rfl | rfl | rfl | rfl | rfl | rfl | rfl | rfl | rfl | rfl
    · exact row 0 1 10 (by omega) (by omega) (by omega) (by simp [okL]) (by simp [okL])
    · exact row 1 2 11 (by omega) (by omega) (by omega) (by simp [okL]) (by simp [okL])
    · show PI T 2 q c (if kd T q = 205 then _ else _)
      split
      · exact un 2 2 10007 (by omega) (by omega) (by simp [okL]) (by omega)
      · exact (ih 3 q o [] (by simp [okL]) h).lt (by omega) (by omega)
    · have a := ih 4 q o [] (by simp [okL]) h
      show PI T 3 q c (bif (P7 T n 4 q o []).1 then _ else _)
      generalize P7 T n 4 q o [] = r at a
      obtain ⟨rb, rc, rq⟩ := r
      cases rb with
      | false => exact ⟨a.1, fun z => by cases z⟩
      | true =>
        have a2 := a.2 rfl
        have a3 := a2.2.2 (by omega)
        simp only [cond]
        split
        · rename_i hk
          have hb := nx_bg (T := T) (q := rq) (by omega)
          have b := ih 4 (nx T rq) o [] (by simp [okL]) (nx_le a.1)
          generalize P7 T n 4 (nx T rq) o [] = r2 at b
          obtain ⟨sb, sc, sq⟩ := r2
          cases sb with
          | false => exact ⟨b.1, fun z => by cases z⟩
          | true =>
            have b2 := b.2 rfl
            have b3 := b2.2.2 (by omega)
            refine ⟨b.1, fun _ => ?_⟩
            simp only [show ¬ 10 ≤ 4 by omega, show ¬ 10 ≤ 3 by omega, if_false, List.length_append, List.length_singleton] at a2 a3 b2 b3 ⊢
            exact ⟨by omega, by omega, fun _ => by omega⟩
        · exact a.lt (by omega) (by omega)
    · exact row 4 5 14 (by omega) (by omega) (by omega) (by simp [okL]) (by simp [okL])
    · exact row 5 6 15 (by omega) (by omega) (by omega) (by simp [okL]) (by simp [okL])
    · show PI T 6 q c (if kd T q = 2 then _ else _)
      have take : ∀ v, kd T q ≠ 0 → PI T 6 q c (true, [v], nx T q) := by
        intro v h0
        have hb := nx_bg h0
        refine ⟨nx_le h, fun _ => ?_⟩
        simp only [show ¬ 10 ≤ 6 by omega, if_false, List.length_singleton]
        exact ⟨by omega, by omega, fun _ => by omega⟩
      split
      · exact take _ (by omega)
      · split
        · exact take _ (by omega)
        · split
          · exact un 6 6 10006 (by omega) (by omega) (by simp [okL]) (by omega)
          · split
            · split
              · exact fail 6 []
              · have hb := nx_bg (T := T) (q := q) (by omega)
                have a := ih 0 (nx T q) (o + 1) [] (by simp [okL]) (nx_le h)
                generalize P7 T n 0 (nx T q) (o + 1) [] = r at a
                obtain ⟨rb, rc, rq⟩ := r
                cases rb with
                | false => exact ⟨a.1, fun z => by cases z⟩
                | true =>
                  have a2 := a.2 rfl
                  have a3 := a2.2.2 (by omega)
                  simp only [cond]
                  split
                  · rename_i hk
                    have hb2 := nx_bg (T := T) (q := rq) (by omega)
                    refine ⟨nx_le a.1, fun _ => ?_⟩
                    simp only [show ¬ 10 ≤ 0 by omega, show ¬ 10 ≤ 6 by omega, if_false] at a2 a3 ⊢
                    exact ⟨by omega, by omega, fun _ => by omega⟩
                  · exact ⟨a.1, fun z => by cases z⟩
            · exact fail 6 []
    · show PI T 10 q c (if kd T q = 203 then _ else _)
      split
      · exact loop 10 1 10008 (by omega) (by omega) (by simp [okL]) (by simp [okL]) (by omega)
      · exact stop 10 (by omega)
    · show PI T 11 q c (if kd T q = 204 then _ else _)
      split
      · exact loop 11 2 10009 (by omega) (by omega) (by simp [okL]) (by simp [okL]) (by omega)
      · exact stop 11 (by omega)
    · show PI T 14 q c (if kd T q = 43 ∨ kd T q = 45 then _ else _)
      split
      · exact loop 14 5 _ (by omega) (by omega) (by simp [okL]) (by simp [okL]) (by omega)
      · exact stop 14 (by omega)
    · show PI T 15 q c (if kd T q = 42 then _ else _)
      split
      · exact loop 15 6 10014 (by omega) (by omega) (by simp [okL]) (by simp [okL]) (by omega)
      · exact stop 15 (by omega)
