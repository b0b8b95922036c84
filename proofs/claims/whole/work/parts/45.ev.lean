/-! What a code comes to; a whole text -/
def bop (c : Nat) (x y : Int32) : Int32 :=
  if c = 10008 then (if ¬ x = 0 ∨ ¬ y = 0 then 1 else 0)
  else if c = 10009 then (if ¬ x = 0 ∧ ¬ y = 0 then 1 else 0)
  else if c = 10010 then (if x < y then 1 else 0)
  else if c = 10011 then (if x = y then 1 else 0)
  else if c = 10012 then x + y
  else if c = 10013 then x - y
  else x * y
def uop (c : Nat) (x : Int32) : Int32 := if c = 10006 then -x else (if x = 0 then 1 else 0)
def ev1 (N : Nat → Int32) (s : List Int32) (c : Nat) : Option (List Int32) :=
  if c < 10000 then some (nI c :: s)
  else if c < 10006 then some (N (c - 10000) :: s)
  else if c < 10008 then (match s with
    | x :: r => some (uop c x :: r)
    | _ => none)
  else (match s with
    | y :: x :: r => some (bop c x y :: r)
    | _ => none)
def ev (N : Nat → Int32) : List Nat → List Int32 → Option (List Int32)
  | [], s => some s
  | c :: l, s => match ev1 N s c with
    | some s' => ev N l s'
    | none => none
theorem ev_app (N : Nat → Int32) : ∀ (a b : List Nat) (s : List Int32), ev N (a ++ b) s = match ev N a s with
    | some s' => ev N b s'
    | none => none
  | [], b, s => rfl
  | c :: a, b, s => by
    simp only [List.cons_append, ev]
    cases ev1 N s c with
    | none => rfl
    | some s' => exact ev_app N a b s'
/-- a code that comes to one number -/
def Qc (c : List Nat) : Prop := (∀ x ∈ c, x ≤ 10014) ∧ ∀ N, ∃ v, ∀ s, ev N c s = some (v :: s)
theorem ev_1 {N : Nat → Int32} {x : Nat} {s : List Int32} : ev N [x] s = ev1 N s x := by
  simp only [ev]
  cases ev1 N s x <;> rfl
theorem ev_un {N : Nat → Int32} {c : List Nat} {v : Int32} {op : Nat} (h : ∀ s, ev N c s = some (v :: s)) (ho : op = 10006 ∨ op = 10007) : ∀ s, ev N (c ++ [op]) s = some (uop op v :: s) := by
  intro s
  rw [ev_app, h s]
  show ev N [op] (v :: s) = _
  rw [ev_1]
  rcases ho with rfl | rfl <;> rfl
theorem ev_bin {N : Nat → Int32} {c e : List Nat} {v w : Int32} {op : Nat} (h : ∀ s, ev N c s = some (v :: s)) (h2 : ∀ s, ev N e s = some (w :: s)) (ho : 10008 ≤ op) : ∀ s, ev N (c ++ e ++ [op]) s = some (bop op v w :: s) := by
  intro s
  rw [ev_app, ev_app, h s]
  show (match ev N e (v :: s) with
    | some s' => ev N [op] s'
    | none => none) = _
  rw [h2 (v :: s)]
  show ev N [op] (w :: v :: s) = _
  rw [ev_1]
  unfold ev1
  rw [if_neg (by omega), if_neg (by omega), if_neg (by omega)]
theorem Qc.un {c : List Nat} {op : Nat} (h : Qc c) (ho : op = 10006 ∨ op = 10007) : Qc (c ++ [op]) := by
  refine ⟨fun x hx => ?_, fun N => ?_⟩
  · rcases List.mem_append.mp hx with hx | hx
    · exact h.1 x hx
    · simp only [List.mem_singleton] at hx
      omega
  · obtain ⟨v, hv⟩ := h.2 N
    exact ⟨_, ev_un hv ho⟩
theorem Qc.bin {c e : List Nat} {op : Nat} (h : Qc c) (h2 : Qc e) (ho : 10008 ≤ op) (ho2 : op ≤ 10014) : Qc (c ++ e ++ [op]) := by
  refine ⟨fun x hx => ?_, fun N => ?_⟩
  · rcases List.mem_append.mp hx with hx | hx
    · rcases List.mem_append.mp hx with hx | hx
      · exact h.1 x hx
      · exact h2.1 x hx
    · simp only [List.mem_singleton] at hx
      omega
  · obtain ⟨v, hv⟩ := h.2 N
    obtain ⟨w, hw⟩ := h2.2 N
    exact ⟨_, ev_bin hv hw ho⟩
theorem nvN_lt (T : Tx) (s : Nat) : ∀ m, (∀ i, i < m → isDg (T.2 (s + i)) = true) → nvN T s m < 10 ^ m
  | 0, _ => by simp [nvN]
  | m + 1, h => by
    have h1 := nvN_lt T s m (fun i hi => h i (by omega))
    have h2 := h m (by omega)
    simp only [isDg, decide_eq_true_eq] at h2
    simp only [nvN]
    rw [Nat.pow_succ]
    omega
theorem kd_2 {T : Tx} {q : Nat} (h : kd T q = 2) : lf isDg T (bg T q) - bg T q ≤ 4 := by
  unfold kd at h
  split at h
  · omega
  · split at h
    · split at h
      · omega
      · omega
    · split at h
      · exact absurd h (kwK_ne2 T _ _ kwL (by decide))
      · split at h
        · rename_i hs
          rw [h] at hs
          exact absurd hs (by decide)
        · omega
theorem vl_lt {T : Tx} {q : Nat} (h : kd T q = 2) : vlT T q < 10000 := by
  have h4 := kd_2 h
  have h1 := nvN_lt T (bg T q) (lf isDg T (bg T q) - bg T q) (fun i hi => lf_in _ (bg T q) rfl (bg T q + i) (by omega) (by omega))
  have h2 : 10 ^ (lf isDg T (bg T q) - bg T q) ≤ 10 ^ 4 := Nat.pow_le_pow_right (by decide) h4
  unfold vlT
  omega
theorem Qc_num {x : Nat} (h : x < 10000) : Qc [x] := ⟨fun y hy => by simp only [List.mem_singleton] at hy; omega, fun N => ⟨nI x, fun s => by rw [ev_1]; exact if_pos h⟩⟩
theorem Qc_name {x : Nat} (h : 10000 ≤ x) (h2 : x ≤ 10005) : Qc [x] := ⟨fun y hy => by simp only [List.mem_singleton] at hy; omega, fun N => ⟨N (x - 10000), fun s => by rw [ev_1]; unfold ev1; rw [if_neg (by omega), if_pos (by omega)]⟩⟩
def QR (r : RP) : Prop := r.1 = true → Qc r.2.1
theorem P7_ok (T : Tx) : ∀ n l q o c, okL l → (10 ≤ l → Qc c) → QR (P7 T n l q o c)
  | 0, l, q, o, c, _, _ => fun z => by cases z
  | n + 1, l, q, o, c, hl, hc => by
    have ih := P7_ok T n
    have row : ∀ (l1 l2 : Nat), l1 < 10 → okL l1 → okL l2 → QR (bif (P7 T n l1 q o []).1 then P7 T n l2 (P7 T n l1 q o []).2.2 o (P7 T n l1 q o []).2.1 else P7 T n l1 q o []) := by
      intro l1 l2 h1 k1 k2
      have a := ih l1 q o [] k1 (fun z => by omega)
      generalize P7 T n l1 q o [] = r at a
      obtain ⟨rb, rc, rq⟩ := r
      cases rb with
      | false => intro z; cases z
      | true => exact ih l2 rq o rc k2 (fun _ => a rfl)
    have loop : ∀ (l l1 op : Nat), l1 < 10 → okL l1 → okL l → Qc c → 10008 ≤ op → op ≤ 10014 → QR (bif (P7 T n l1 (nx T q) o []).1 then P7 T n l (P7 T n l1 (nx T q) o []).2.2 o (c ++ (P7 T n l1 (nx T q) o []).2.1 ++ [op]) else P7 T n l1 (nx T q) o []) := by
      intro l l1 op h1 k1 k2 hq o1 o2
      have a := ih l1 (nx T q) o [] k1 (fun z => by omega)
      generalize P7 T n l1 (nx T q) o [] = r at a
      obtain ⟨rb, rc, rq⟩ := r
      cases rb with
      | false => intro z; cases z
      | true => exact ih l rq o (c ++ rc ++ [op]) k2 (fun _ => hq.bin (a rfl) o1 o2)
    have un : ∀ (l1 op : Nat), l1 < 10 → okL l1 → (op = 10006 ∨ op = 10007) → QR (if 5 ≤ o then (false, [], q) else bif (P7 T n l1 (nx T q) (o + 1) []).1 then (true, (P7 T n l1 (nx T q) (o + 1) []).2.1 ++ [op], (P7 T n l1 (nx T q) (o + 1) []).2.2) else P7 T n l1 (nx T q) (o + 1) []) := by
      intro l1 op h1 k1 ho
      split
      · intro z; cases z
      · have a := ih l1 (nx T q) (o + 1) [] k1 (fun z => by omega)
        generalize P7 T n l1 (nx T q) (o + 1) [] = r at a
        obtain ⟨rb, rc, rq⟩ := r
        cases rb with
        | false => intro z; cases z
        | true => exact fun _ => (a rfl).un ho
    rcases hl with rfl | rfl | rfl | rfl | rfl | rfl | rfl | rfl | rfl | rfl | rfl
    · exact row 1 10 (by omega) (by simp [okL]) (by simp [okL])
    · exact row 2 11 (by omega) (by simp [okL]) (by simp [okL])
    · show QR (if kd T q = 205 then _ else _)
      split
      · exact un 2 10007 (by omega) (by simp [okL]) (Or.inr rfl)
      · exact ih 3 q o [] (by simp [okL]) (fun z => by omega)
    · have a := ih 4 q o [] (by simp [okL]) (fun z => by omega)
      show QR (bif (P7 T n 4 q o []).1 then _ else _)
      generalize P7 T n 4 q o [] = r at a
      obtain ⟨rb, rc, rq⟩ := r
      cases rb with
      | false => intro z; cases z
      | true =>
        simp only [cond]
        split
        · rename_i hk
          have b := ih 4 (nx T rq) o [] (by simp [okL]) (fun z => by omega)
          generalize P7 T n 4 (nx T rq) o [] = r2 at b
          obtain ⟨sb, sc, sq⟩ := r2
          cases sb with
          | false => intro z; cases z
          | true => exact fun _ => (a rfl).bin (b rfl) (by split <;> omega) (by split <;> omega)
        · exact a
    · exact row 5 14 (by omega) (by simp [okL]) (by simp [okL])
    · exact row 6 15 (by omega) (by simp [okL]) (by simp [okL])
    · show QR (if kd T q = 2 then _ else _)
      split
      · rename_i hk
        exact fun _ => Qc_num (vl_lt hk)
      · split
        · rename_i hk
          exact fun _ => Qc_name hk (kd_le T q)
        · split
          · exact un 6 10006 (by omega) (by simp [okL]) (Or.inl rfl)
          · split
            · split
              · intro z; cases z
              · have a := ih 0 (nx T q) (o + 1) [] (by simp [okL]) (fun z => by omega)
                generalize P7 T n 0 (nx T q) (o + 1) [] = r at a
                obtain ⟨rb, rc, rq⟩ := r
                cases rb with
                | false => intro z; cases z
                | true =>
                  simp only [cond]
                  split
                  · exact fun _ => a rfl
                  · intro z; cases z
            · intro z; cases z
    · show QR (if kd T q = 203 then _ else _)
      split
      · exact loop 10 1 10008 (by omega) (by simp [okL]) (by simp [okL]) (hc (by omega)) (by omega) (by omega)
      · exact fun _ => hc (by omega)
    · show QR (if kd T q = 204 then _ else _)
      split
      · exact loop 11 2 10009 (by omega) (by simp [okL]) (by simp [okL]) (hc (by omega)) (by omega) (by omega)
      · exact fun _ => hc (by omega)
    · show QR (if kd T q = 43 ∨ kd T q = 45 then _ else _)
      split
      · exact loop 14 5 _ (by omega) (by simp [okL]) (by simp [okL]) (hc (by omega)) (by split <;> omega) (by split <;> omega)
      · exact fun _ => hc (by omega)
    · show QR (if kd T q = 42 then _ else _)
      split
      · exact loop 15 6 10014 (by omega) (by simp [okL]) (by simp [okL]) (hc (by omega)) (by omega) (by omega)
      · exact fun _ => hc (by omega)
/-- a part; a whole text: could it be read; its parts; where it ended, or failed -/
def pt (T : Tx) (p q : Nat) : RP := if kd T q = 200 + p then (bif (P7 T 4000 0 (nx T q) 0 []).1 then (if kd T (P7 T 4000 0 (nx T q) 0 []).2.2 = 59 then (true, (P7 T 4000 0 (nx T q) 0 []).2.1, nx T (P7 T 4000 0 (nx T q) 0 []).2.2) else (false, [], (P7 T 4000 0 (nx T q) 0 []).2.2)) else P7 T 4000 0 (nx T q) 0 []) else (false, [], q)
theorem pt_in {T : Tx} {p q : Nat} (h : q ≤ T.1) : (pt T p q).2.2 ≤ T.1 ∧ ((pt T p q).1 = true → bg T q + (pt T p q).2.1.length ≤ bg T (pt T p q).2.2 ∧ Qc (pt T p q).2.1) := by
  unfold pt
  split
  · rename_i hk
    have hb := nx_bg (T := T) (q := q) (by omega)
    have a := P7_in T 4000 0 (nx T q) 0 [] (by simp [okL]) (nx_le h)
    have b := P7_ok T 4000 0 (nx T q) 0 [] (by simp [okL]) (fun z => by omega)
    generalize P7 T 4000 0 (nx T q) 0 [] = r at a b
    obtain ⟨rb, rc, rq⟩ := r
    cases rb with
    | false => exact ⟨a.1, fun z => by cases z⟩
    | true =>
      simp only [cond]
      split
      · rename_i hk2
        have hb2 := nx_bg (T := T) (q := rq) (by omega)
        have a2 := a.2 rfl
        simp only [show ¬ 10 ≤ 0 by omega, if_false] at a2
        exact ⟨nx_le a.1, fun _ => ⟨by show bg T q + rc.length ≤ bg T (nx T rq); omega, b rfl⟩⟩
      · exact ⟨a.1, fun z => by cases z⟩
  · exact ⟨h, fun z => by cases z⟩
/-- where the parts begin -/
def qT (T : Tx) : Nat → Nat
  | 0 => 0
  | p + 1 => (pt T p (qT T p)).2.2
theorem qT_le (T : Tx) : ∀ p, qT T p ≤ T.1
  | 0 => Nat.zero_le _
  | p + 1 => (pt_in (qT_le T p)).1
def ptc (T : Tx) (p : Nat) : RP := pt T p (qT T p)
/-- can it be read -/
def fine (T : Tx) : Bool := (ptc T 0).1 && (ptc T 1).1 && (ptc T 2).1 && decide (kd T (qT T 3) = 0)
/-- where it fails -/
def flt (T : Tx) : Nat := bif (ptc T 0).1 then (bif (ptc T 1).1 then qT T 3 else qT T 2) else qT T 1
/-- what part p comes to -/
def tvT (T : Tx) (p : Nat) (N : Nat → Int32) : Int32 := match ev N (ptc T p).2.1 [] with
  | some (v :: _) => v
  | _ => 0
theorem tvT_eq {T : Tx} {p : Nat} {N : Nat → Int32} {v : Int32} (h : ∀ s, ev N (ptc T p).2.1 s = some (v :: s)) : tvT T p N = v := by
  unfold tvT
  rw [h []]
