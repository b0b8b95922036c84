/-! the class, out of claim whole -/
def dv (z : Int32) : Nat := z.toBitVec.toNat / 2 ^ 9 % 4
def wDr (f : Nat) : WW := fun j g k => g = f ∧ j = 14 ∧ k < 25
theorem wDr_ok (f : Nat) : okW (wDr f) := by
  intro j g k hj
  simp only [wDr] at hj
  omega
theorem FX.sO {tv : TV} {nT : Nat} {S : St} {f : Nat} {F : Fl} (h : FX tv nT S f F) (a b : Nat) {v : Nat} (ha : a < F.n) (hb : b < F.n) (hv : v ≤ 99) : FX tv nT (ivSet S 14 f (5 * a + b) (nI v)) f (F.sO a b v) ∧ Ag (wDr f) S (ivSet S 14 f (5 * a + b) (nI v)) := by
  have hn := h.2.2.1
  have g : Ag (wDr f) S (ivSet S 14 f (5 * a + b) (nI v)) := Ag.iv ⟨rfl, rfl, by omega⟩
  exact ⟨⟨h.1.up g (wDr_ok f), h.2.1.sO hn a b v hb, h.2.2.sO a b hv⟩, g⟩
abbrev Tx : Type := Nat × (Nat → Nat)
def isSp (c : Nat) : Bool := decide (c = 32 ∨ c = 10)
def isDg (c : Nat) : Bool := decide (48 ≤ c ∧ c ≤ 57)
def isLt (c : Nat) : Bool := decide (97 ≤ c ∧ c ≤ 122)
def isSg (c : Nat) : Bool := decide (c = 40 ∨ c = 41 ∨ c = 59 ∨ c = 43 ∨ c = 45 ∨ c = 42 ∨ c = 60 ∨ c = 61)
def rn (p : Nat → Bool) (T : Tx) : Nat → Nat → Nat
  | 0, k => k
  | m + 1, k => if k < T.1 ∧ p (T.2 k) = true then rn p T m (k + 1) else k
/-- where a run from k on ends -/
def lf (p : Nat → Bool) (T : Tx) (k : Nat) : Nat := rn p T (T.1 - k) k
/-- where the token from q on begins -/
def bg (T : Tx) (q : Nat) : Nat := lf isSp T q
def nvN (T : Tx) (s : Nat) : Nat → Nat
  | 0 => 0
  | m + 1 => nvN T s m * 10 + (T.2 (s + m) - 48)
def wdE (T : Tx) (s len : Nat) (w : List Nat) : Bool := decide (len = w.length) && al (fun i => decide (T.2 (s + i) = w.getD i 0)) w.length
def kwL : List (List Nat × Nat) := [([112, 97, 121, 115], 200), ([119, 105, 108, 108, 115], 201), ([98, 114, 101, 97, 116, 104], 202), ([111, 114], 203), ([97, 110, 100], 204), ([110, 111, 116], 205), ([100, 101, 98, 116], 10000), ([111, 119, 101, 100], 10001), ([110, 117, 109, 98, 101, 114], 10002), ([114, 111, 117, 110, 100], 10003), ([100, 111, 110, 101], 10004), ([110, 105, 103, 104, 116], 10005)]
def kwK (T : Tx) (s len : Nat) : List (List Nat × Nat) → Nat
  | [] => 1
  | a :: l => if wdE T s len a.1 = true then a.2 else kwK T s len l
/-- the kind of the token from q on; where the next one is looked for; a number's value -/
def kd (T : Tx) (q : Nat) : Nat :=
  if T.1 ≤ bg T q then 0
  else if isDg (T.2 (bg T q)) = true then (if 4 < lf isDg T (bg T q) - bg T q then 1 else 2)
  else if isLt (T.2 (bg T q)) = true then kwK T (bg T q) (lf isLt T (bg T q) - bg T q) kwL
  else if isSg (T.2 (bg T q)) = true then T.2 (bg T q) else 1
def nx (T : Tx) (q : Nat) : Nat :=
  if T.1 ≤ bg T q then bg T q
  else if isDg (T.2 (bg T q)) = true then lf isDg T (bg T q)
  else if isLt (T.2 (bg T q)) = true then lf isLt T (bg T q)
  else bg T q + 1
def vlT (T : Tx) (q : Nat) : Nat := nvN T (bg T q) (lf isDg T (bg T q) - bg T q)
/-- the code that is made at a level (0 either, 1 both, 2 not, 3 compared, 4 sum, 5 term, 6 one; 10, 11, 14, 15: the rest of a row, c being made already): could it be read, the code, where the token ahead is looked for -/
abbrev RP : Type := Bool × List Nat × Nat
def P7 (T : Tx) : Nat → Nat → Nat → Nat → List Nat → RP
  | 0, _, q, _, c => (false, c, q)
  | n + 1, l, q, o, c => match l with
    | 0 => bif (P7 T n 1 q o []).1 then P7 T n 10 (P7 T n 1 q o []).2.2 o (P7 T n 1 q o []).2.1 else P7 T n 1 q o []
    | 10 => if kd T q = 203 then (bif (P7 T n 1 (nx T q) o []).1 then P7 T n 10 (P7 T n 1 (nx T q) o []).2.2 o (c ++ (P7 T n 1 (nx T q) o []).2.1 ++ [10008]) else P7 T n 1 (nx T q) o []) else (true, c, q)
    | 1 => bif (P7 T n 2 q o []).1 then P7 T n 11 (P7 T n 2 q o []).2.2 o (P7 T n 2 q o []).2.1 else P7 T n 2 q o []
    | 11 => if kd T q = 204 then (bif (P7 T n 2 (nx T q) o []).1 then P7 T n 11 (P7 T n 2 (nx T q) o []).2.2 o (c ++ (P7 T n 2 (nx T q) o []).2.1 ++ [10009]) else P7 T n 2 (nx T q) o []) else (true, c, q)
    | 2 => if kd T q = 205 then (if 5 ≤ o then (false, [], q) else bif (P7 T n 2 (nx T q) (o + 1) []).1 then (true, (P7 T n 2 (nx T q) (o + 1) []).2.1 ++ [10007], (P7 T n 2 (nx T q) (o + 1) []).2.2) else P7 T n 2 (nx T q) (o + 1) []) else P7 T n 3 q o []
    | 3 => bif (P7 T n 4 q o []).1 then (if kd T (P7 T n 4 q o []).2.2 = 60 ∨ kd T (P7 T n 4 q o []).2.2 = 61 then (bif (P7 T n 4 (nx T (P7 T n 4 q o []).2.2) o []).1 then (true, (P7 T n 4 q o []).2.1 ++ (P7 T n 4 (nx T (P7 T n 4 q o []).2.2) o []).2.1 ++ [if kd T (P7 T n 4 q o []).2.2 = 60 then 10010 else 10011], (P7 T n 4 (nx T (P7 T n 4 q o []).2.2) o []).2.2) else P7 T n 4 (nx T (P7 T n 4 q o []).2.2) o []) else P7 T n 4 q o []) else P7 T n 4 q o []
    | 4 => bif (P7 T n 5 q o []).1 then P7 T n 14 (P7 T n 5 q o []).2.2 o (P7 T n 5 q o []).2.1 else P7 T n 5 q o []
    | 14 => if kd T q = 43 ∨ kd T q = 45 then (bif (P7 T n 5 (nx T q) o []).1 then P7 T n 14 (P7 T n 5 (nx T q) o []).2.2 o (c ++ (P7 T n 5 (nx T q) o []).2.1 ++ [if kd T q = 43 then 10012 else 10013]) else P7 T n 5 (nx T q) o []) else (true, c, q)
    | 5 => bif (P7 T n 6 q o []).1 then P7 T n 15 (P7 T n 6 q o []).2.2 o (P7 T n 6 q o []).2.1 else P7 T n 6 q o []
    | 15 => if kd T q = 42 then (bif (P7 T n 6 (nx T q) o []).1 then P7 T n 15 (P7 T n 6 (nx T q) o []).2.2 o (c ++ (P7 T n 6 (nx T q) o []).2.1 ++ [10014]) else P7 T n 6 (nx T q) o []) else (true, c, q)
    | 6 => if kd T q = 2 then (true, [vlT T q], nx T q) else if 10000 ≤ kd T q then (true, [kd T q], nx T q)
      else if kd T q = 45 then (if 5 ≤ o then (false, [], q) else bif (P7 T n 6 (nx T q) (o + 1) []).1 then (true, (P7 T n 6 (nx T q) (o + 1) []).2.1 ++ [10006], (P7 T n 6 (nx T q) (o + 1) []).2.2) else P7 T n 6 (nx T q) (o + 1) [])
      else if kd T q = 40 then (if 5 ≤ o then (false, [], q) else bif (P7 T n 0 (nx T q) (o + 1) []).1 then (if kd T (P7 T n 0 (nx T q) (o + 1) []).2.2 = 41 then (true, (P7 T n 0 (nx T q) (o + 1) []).2.1, nx T (P7 T n 0 (nx T q) (o + 1) []).2.2) else (false, [], (P7 T n 0 (nx T q) (o + 1) []).2.2)) else P7 T n 0 (nx T q) (o + 1) [])
      else (false, [], q)
    | _ => (false, c, q)
def TP (S : St) (T : Tx) : Prop := S.1 7 0 1 = nI T.1 ∧ T.1 ≤ 160 ∧ ∀ k, k < T.1 → S.1 8 0 k = nI (T.2 k) ∧ T.2 k ≤ 255
theorem TP.up {S S' : St} {T : Tx} {W : WW} (h : TP S T) (h1 : Ag W S S') (hw : ∀ k, ¬ W 7 0 1 ∧ ¬ W 8 0 k) : TP S' T := by
  refine ⟨?_, h.2.1, fun k hk => ?_⟩
  · rw [h1.1 7 0 1 (hw 0).1]; exact h.1
  · rw [h1.1 8 0 k (hw k).2]; exact h.2.2 k hk
theorem ltI {x y : Nat} (hx : x < 2 ^ 31) (hy : y < 2 ^ 31) {A B : Prop} (h1 : x < y → A) (h2 : ¬ x < y → B) : (nI x < nI y → A) ∧ (¬ nI x < nI y → B) :=
  ⟨fun hc => h1 ((nI_ltI hx hy).mp hc), fun hc => h2 (fun z => hc ((nI_ltI hx hy).mpr z))⟩
def bop (c : Nat) (x y : Int32) : Int32 :=
  if c = 10008 then (if ¬ x = 0 ∨ ¬ y = 0 then 1 else 0)
  else if c = 10009 then (if ¬ x = 0 ∧ ¬ y = 0 then 1 else 0)
  else if c = 10010 then (if x < y then 1 else 0)
  else if c = 10011 then (if x = y then 1 else 0)
  else if c = 10012 then x + y
  else if c = 10013 then x - y
  else x * y
def uop (c : Nat) (x : Int32) : Int32 := if c = 10006 then -x else (if x = 0 then 1 else 0)
def ev1 (N : Nat → Int32) (s : List Int32) (c : Nat) : Option (List Int32) :=
  if c < 10000 then some (nI c :: s)
  else if c < 10006 then some (N (c - 10000) :: s)
  else if c < 10008 then (match s with
    | x :: r => some (uop c x :: r)
    | _ => none)
  else (match s with
    | y :: x :: r => some (bop c x y :: r)
    | _ => none)
def ev (N : Nat → Int32) : List Nat → List Int32 → Option (List Int32)
  | [], s => some s
  | c :: l, s => match ev1 N s c with
    | some s' => ev N l s'
    | none => none
/-- a part; a whole text: could it be read; its parts; where it ended, or failed -/
def pt (T : Tx) (p q : Nat) : RP := if kd T q = 200 + p then (bif (P7 T 4000 0 (nx T q) 0 []).1 then (if kd T (P7 T 4000 0 (nx T q) 0 []).2.2 = 59 then (true, (P7 T 4000 0 (nx T q) 0 []).2.1, nx T (P7 T 4000 0 (nx T q) 0 []).2.2) else (false, [], (P7 T 4000 0 (nx T q) 0 []).2.2)) else P7 T 4000 0 (nx T q) 0 []) else (false, [], q)
/-- where the parts begin -/
def qT (T : Tx) : Nat → Nat
  | 0 => 0
  | p + 1 => (pt T p (qT T p)).2.2
def ptc (T : Tx) (p : Nat) : RP := pt T p (qT T p)
/-- can it be read -/
def fine (T : Tx) : Bool := (ptc T 0).1 && (ptc T 1).1 && (ptc T 2).1 && decide (kd T (qT T 3) = 0)
def cdT (T : Tx) : List Nat := (ptc T 0).2.1 ++ (ptc T 1).2.1 ++ (ptc T 2).2.1
def stT (T : Tx) (p : Nat) : Nat := match p with
  | 0 => 0
  | 1 => (ptc T 0).2.1.length
  | _ => (ptc T 0).2.1.length + (ptc T 1).2.1.length
/-- text t lies there, read -/
def TXt (S : St) (t : Nat) (T : Tx) : Prop := fine T = true ∧ S.2.2.1 3 0 t = true ∧ S.2.2.2.1 t = (cdT T).length ∧ (cdT T).length ≤ 160 ∧ (∀ k, k < (cdT T).length → S.1 31 t k = nI ((cdT T).getD k 0)) ∧ ∀ p, p < 3 → S.1 32 t p = nI (stT T p + (ptc T p).2.1.length)
def w5 : WW := fun j _ _ => j = 5
def TXC (S : St) (nT : Nat) (tb : Nat → Tx) : Prop := 1 ≤ nT ∧ nT ≤ 6 ∧ S.1 1 0 1 = nI nT ∧ ∀ t, t < nT → TXt S t (tb t)
theorem TXt.up {S S' : St} {t : Nat} {T : Tx} (h : TXt S t T) (h31 : ∀ k, S'.1 31 t k = S.1 31 t k) (h32 : ∀ k, S'.1 32 t k = S.1 32 t k) (h3 : S'.2.2.1 3 0 t = S.2.2.1 3 0 t) (hl : S'.2.2.2.1 t = S.2.2.2.1 t) : TXt S' t T := by
  obtain ⟨f1, f2, f3, f4, f5, f6⟩ := h
  exact ⟨f1, by rw [h3]; exact f2, by rw [hl]; exact f3, f4, fun k hk => by rw [h31]; exact f5 k hk, fun k hk => by rw [h32]; exact f6 k hk⟩
theorem TXC.ag {S S' : St} {nT : Nat} {tb : Nat → Tx} {W : WW} (h : TXC S nT tb) (h1 : Ag W S S') (hw : okW W) : TXC S' nT tb := by
  refine ⟨h.1, h.2.1, ?_, fun t ht => (h.2.2.2 t ht).up (fun k => ?_) (fun k => ?_) (by rw [h1.2]) (by rw [h1.2])⟩
  · rw [h1.1 1 0 1 (fun z => hw _ _ _ z (by omega))]; exact h.2.2.1
  · rw [h1.1 31 t k (fun z => hw _ _ _ z (by omega))]
  · rw [h1.1 32 t k (fun z => hw _ _ _ z (by omega))]
theorem q_Text_init {d n : Nat} {S : St} {K : KT} (hd : 1 ≤ d) (h : K none (nnSet (nnSet S 30 n 0) 30 n 1)) : Call d m_X4_init [aR 30 n, aR 31 n, aR 32 n] S K := by
  refine Call.of (k := 0) hd (fun e he P hP => ?_)
  repeat (first | (refine hP _ _ _ _ _ _ ?_; show P _ _ _ _ _ _) | refine hP _ _ _ _ _ _ (And.intro (hN _ _ _ rfl) ?_))
  refine hP _ _ _ _ _ _ (And.intro rfl ?_)
  repeat (first | (refine hP _ _ _ _ _ _ ?_; show P _ _ _ _ _ _) | refine hP _ _ _ _ _ _ (And.intro (hN _ _ _ rfl) ?_))
  refine hP _ _ _ _ _ _ (And.intro rfl ?_)
  repeat (first | (refine hP _ _ _ _ _ _ ?_; show P _ _ _ _ _ _) | refine hP _ _ _ _ _ _ (And.intro (hN _ _ _ rfl) ?_))
  exact hP _ _ _ _ _ _ (h)

def mP : WW := fun j _ k => j = 40 ∧ 20 ≤ k ∧ k ≤ 28
theorem Ag.mp {S : St} {k : Nat} {v : Int32} (h1 : 20 ≤ k) (h2 : k ≤ 28) : Ag mP S (ivSet S 40 0 k v) := Ag.iv ⟨rfl, h1, h2⟩
/-- the model's reader is at text t -/
def MT0 (S : St) (T : Tx) (t : Nat) : Prop := t < 6 ∧ T.1 ≤ 160 ∧ ∀ k, k < T.1 → S.1 41 0 (160 * t + k) = nI (T.2 k) ∧ T.2 k ≤ 255
theorem MT0.up {S S' : St} {T : Tx} {t : Nat} {W : WW} (h : MT0 S T t) (h1 : Ag W S S') (hw : ∀ k, ¬ W 41 0 k) : MT0 S' T t := ⟨h.1, h.2.1, fun k hk => by rw [h1.1 41 0 _ (hw _)]; exact h.2.2 k hk⟩
/-- a letter of the word from s to e, 0 behind it -/
def lt8 (T : Tx) (s e i c : Nat) : Bool := if s + i < e then decide (T.2 (s + i) = c) else decide (c = 0)
/-- the word from s to e, letter by letter -/
def w8 (T : Tx) (s e : Nat) (c : Nat → Nat) : Bool := decide (e ≤ s + 8) && (lt8 T s e 0 (c 0) && (lt8 T s e 1 (c 1) && (lt8 T s e 2 (c 2) && (lt8 T s e 3 (c 3) && (lt8 T s e 4 (c 4) && (lt8 T s e 5 (c 5) && (lt8 T s e 6 (c 6) && lt8 T s e 7 (c 7))))))))
theorem bn2 {w : Bool} {A B : Prop} (h0 : w = false → A) (h1 : w = true → B) : (b2 w = 0 → A) ∧ (¬ b2 w = 0 → B) := ⟨fun z => h0 (b2_0 z), fun z => h1 (b2_1 z)⟩
theorem bn3 {w : Bool} {A B : Prop} (h0 : w = true → A) (h1 : w = false → B) : (¬ b2 w = 0 → A) ∧ (b2 w = 0 → B) := ⟨fun z => h0 (b2_1 z), fun z => h1 (b2_0 z)⟩
/-- what text() may change in the model -/
def mTx (n : Nat) : WW := fun j _ k => (j = 40 ∧ (20 ≤ k ∧ k ≤ 28 ∨ k = 3 ∨ k = 6)) ∨ (j = 41 ∧ 160 * n ≤ k) ∨ (j = 42 ∧ k = n)
def an (f : Nat → Bool) : Nat → Bool
  | 0 => false
  | n + 1 => an f n || f n
def SV (S S0 : St) : Prop := (∀ k, k < 25 → S.1 49 0 k = S0.1 46 0 k) ∧ (∀ k, k < 10 → S.1 49 0 (25 + k) = S0.1 45 0 k) ∧ S.1 49 0 35 = S0.1 40 0 7
theorem SV.up {S S' S0 : St} (h : SV S S0) {W : WW} (h1 : Ag W S S') (hw : ∀ k, ¬ W 49 0 k) : SV S' S0 :=
  ⟨fun k hk => by rw [h1.1 49 0 k (hw k)]; exact h.1 k hk, fun k hk => by rw [h1.1 49 0 _ (hw _)]; exact h.2.1 k hk, by rw [h1.1 49 0 35 (hw _)]; exact h.2.2⟩
/-- is x one of the first n -/
def isD (n : Nat) (x : Int32) : Bool := decide (0 ≤ x ∧ x < nI n)
theorem isD_n {n k : Nat} (hk : k < 2 ^ 31) (hn : n ≤ 5) : isD n (nI k) = decide (k < n) := by
  unfold isD
  have h1 : 0 ≤ nI k := nI_pos' hk
  have h2 := nI_ltI hk (show n < 2 ^ 31 by omega)
  simp [h1, h2]
theorem py_same {tv : TV} {F G : Fl} {a : Nat} (h : G.n = F.n ∧ G.rd = F.rd ∧ G.ni = F.ni ∧ G.ru = F.ru ∧ G.ki = F.ki ∧ G.nu = F.nu) (ho : ∀ y, G.ow y a = F.ow y a) (hd : G.dn a = F.dn a) (o : Nat) : pyN tv G a o = pyN tv F a o := by
  obtain ⟨h1, h2, h3, h4, h5, h6⟩ := h
  have hT : oT G a = oT F a := by
    unfold oT
    rw [h1]
    exact sN_congr (fun i _ => ho i)
  have hnm : nmN G a o = nmN F a o := by
    funext k
    rcases k with _ | _ | _ | _ | _ | k
    · rfl
    · show nI (oT G a) = nI (oT F a)
      rw [hT]
    · show nI (G.nu a) = nI (F.nu a)
      rw [h6]
    · show nI G.rd = nI F.rd
      rw [h2]
    · show nI (G.dn a) = nI (F.dn a)
      rw [hd]
    · show nI G.ni = nI F.ni
      rw [h3]
  have hv : vN tv G 0 a o = vN tv F 0 a o := by
    unfold vN
    rw [hnm, h4]
  unfold pyN evR
  rw [h5, h6, h2, hv]
theorem ds_step {tv : TV} {F : Fl} {i k : Nat} (hi : i < 26) (hk : k < 10) (hs : sb i k = true) : stpN tv (dsN tv F i k) (prA k) (prB k) = dsN tv F i (k + 1) ∧ spN tv (dsN tv F i k) (prA k) (prB k) = spN tv F (prA k) (prB k) := by
  have hn := dsN_n tv F i k
  have ha := dsN_at (tv := tv) (F := F) hi hk hs (prA k) (Or.inl rfl)
  have hb := dsN_at (tv := tv) (F := F) hi hk hs (prB k) (Or.inr rfl)
  have ea := fun o => py_same (tv := tv) (a := prA k) hn (fun y => (ha.1 y).1) ha.2 o
  have eb := fun o => py_same (tv := tv) (a := prB k) hn (fun y => (hb.1 y).1) hb.2 o
  constructor
  · show slN _ _ _ _ _ = _
    simp only [dsN, hs, if_true]
    rw [ea, eb, (ha.1 (prB k)).2, (ha.1 (prB k)).1]
  · unfold spN
    rw [ea, eb, (ha.1 (prB k)).2, (ha.1 (prB k)).1]
/-- who sits the next round out -/
def siN (tv : TV) (F : Fl) : Int32 := ((1 : Int32) <<< (nI F.n &&& 31)) - 1 &&& (rdZ tv F ^^^ -1)
theorem an_iff {f : Nat → Bool} : ∀ {n : Nat}, an f n = true ↔ ∃ k, k < n ∧ f k = true
  | 0 => by
    constructor
    · intro h
      cases h
    · rintro ⟨k, hk, _⟩
      omega
  | n + 1 => by
    simp only [an, Bool.or_eq_true, an_iff (n := n)]
    constructor
    · rintro (⟨k, hk, h⟩ | h)
      · exact ⟨k, by omega, h⟩
      · exact ⟨n, by omega, h⟩
    · rintro ⟨k, hk, h⟩
      by_cases e : k = n
      · exact Or.inr (e ▸ h)
      · exact Or.inl ⟨k, by omega, h⟩
def clN (tv : TV) : Nat → Fl → Bool
  | 0, F => decide (oA F = 0)
  | n + 1, F => an (fun i => okS tv F i && clN tv n (dsF tv F i)) 26
/-- by how few rounds: from k on, m tries -/
def snN (tv : TV) (F : Fl) : Nat → Nat → Int32
  | 0, _ => -1
  | m + 1, k => if clN tv k F = true then nI k else snN tv F m (k + 1)
/-- the bits of those for whom f holds -/
def lkN (f : Nat → Bool) : Nat → Int32
  | 0 => 0
  | k + 1 => if f k = true then lkN f k ||| ((1 : Int32) <<< (nI k &&& 31)) else lkN f k
def liF (tv : TV) (F : Fl) (o sz : Nat) (v : Nat → Int32) (k : Nat) : Bool := decide (¬ k = o) && decide (foN tv F k sz v = -1)
theorem sN_up {f g : Nat → Nat} {a : Nat} : ∀ {n : Nat}, a < n → (∀ i, i < n → ¬ i = a → g i = f i) → sN g n + f a = sN f n + g a
  | 0, h, _ => by omega
  | n + 1, h, hg => by
    simp only [sN]
    by_cases e : a = n
    · subst e
      rw [sN_congr (f := g) (g := f) (fun i hi => hg i (by omega) (by omega))]
      omega
    · have := sN_up (f := f) (g := g) (a := a) (n := n) (by omega) (fun i hi hne => hg i (by omega) hne)
      rw [hg n (by omega) (fun z => e z.symm)]
      omega
theorem sN_0 {f : Nat → Nat} : ∀ {n : Nat}, sN f n = 0 → ∀ i, i < n → f i = 0
  | 0, _, i, hi => by omega
  | n + 1, h, i, hi => by
    have h : sN f n + f n = 0 := h
    by_cases e : i = n
    · rw [e]; omega
    · exact sN_0 (f := f) (n := n) (by omega) i (by omega)
theorem sN_z {f : Nat → Nat} : ∀ {n : Nat}, (∀ i, i < n → f i = 0) → sN f n = 0
  | 0, _ => rfl
  | n + 1, h => by
    simp only [sN]
    rw [sN_z (fun i hi => h i (by omega)), h n (by omega)]
theorem oA_0 {F : Fl} (h : oA F = 0) {a b : Nat} (ha : a < F.n) (hb : b < F.n) : F.ow a b = 0 := sN_0 (sN_0 h a ha) b hb
theorem oA_sO {F : Fl} {a b v : Nat} (ha : a < F.n) (hb : b < F.n) : oA (F.sO a b v) + F.ow a b = oA F + v := by
  have h1 : oS (F.sO a b v) a + F.ow a b = oS F a + v := by
    have := sN_up (f := fun x => F.ow a x) (g := fun x => (F.sO a b v).ow a x) (a := b) (n := F.n) hb (fun i _ hne => by
      show uN2 F.ow a b v a i = _
      unfold uN2
      rw [if_neg (fun z => hne z.2)])
    have e : (F.sO a b v).ow a b = v := by
      show uN2 F.ow a b v a b = _
      unfold uN2
      rw [if_pos ⟨rfl, rfl⟩]
    rw [e] at this
    exact this
  have h2 := sN_up (f := fun x => oS F x) (g := fun x => oS (F.sO a b v) x) (a := a) (n := F.n) ha (fun i _ hne => by
    refine sN_congr (fun y _ => ?_)
    show uN2 F.ow a b v i y = _
    unfold uN2
    rw [if_neg (fun z => hne z.1)])
  have h3 : oA (F.sO a b v) = sN (fun x => oS (F.sO a b v) x) F.n := rfl
  have h4 : oA F = sN (fun x => oS F x) F.n := rfl
  omega
theorem oA_sl {F : Fl} {a b p q : Nat} (ha : a < F.n) (hb : b < F.n) (hab : ¬ a = b) (hp : p ≤ F.ow a b) (hq : q ≤ F.ow b a) : oA (slN F a b p q) + (p + q) = oA F := by
  have h1 := oA_sO (F := F) (a := a) (b := b) (v := F.ow a b - p) ha hb
  have h2 := oA_sO (F := F.sO a b (F.ow a b - p)) (a := b) (b := a) (v := F.ow b a - q) hb ha
  have e : (F.sO a b (F.ow a b - p)).ow b a = F.ow b a := by
    show uN2 F.ow a b _ b a = _
    unfold uN2
    rw [if_neg (fun z => hab z.1.symm)]
  have e2 : oA (slN F a b p q) = oA ((F.sO a b (F.ow a b - p)).sO b a (F.ow b a - q)) := rfl
  rw [e] at h2
  omega
theorem ds_wf {tv : TV} {nT i : Nat} {F : Fl} (hW : WF nT F) (hi : i < 26) (hok : okS tv F i = true) : ∀ k, k ≤ 10 → WF nT (dsN tv F i k) ∧ oA (dsN tv F i k) + sN (fun k => cond (sb i k) (spN tv F (prA k) (prB k)) 0) k = oA F
  | 0, _ => ⟨hW, rfl⟩
  | k + 1, hk => by
    obtain ⟨h1, h2⟩ := ds_wf hW hi hok k (by omega)
    obtain ⟨p1, p2⟩ := pr_lt k (by omega)
    by_cases hs : sb i k = true
    · have hlt := okN_lt (okS_iff.mp hok k (by omega) hs)
      obtain ⟨d1, d2⟩ := ds_step (tv := tv) (F := F) hi (show k < 10 by omega) hs
      have nk := (dsN_n tv F i k).1
      have o1 := h1.ow (a := prA k) (b := prB k) (by omega) (by omega)
      have o2 := h1.ow (a := prB k) (b := prA k) (by omega) (by omega)
      have hsl := oA_sl (F := dsN tv F i k) (a := prA k) (b := prB k) (p := pyN tv (dsN tv F i k) (prA k) ((dsN tv F i k).ow (prA k) (prB k))) (q := pyN tv (dsN tv F i k) (prB k) ((dsN tv F i k).ow (prB k) (prA k))) (by omega) (by omega) (by omega) (pyN_le _ _ _ (by omega)) (pyN_le _ _ _ (by omega))
      have hwf := h1.st (tv := tv) (a := prA k) (b := prB k) (by omega) (by omega)
      rw [d1] at hwf
      refine ⟨hwf, ?_⟩
      have d2' : pyN tv (dsN tv F i k) (prA k) ((dsN tv F i k).ow (prA k) (prB k)) + pyN tv (dsN tv F i k) (prB k) ((dsN tv F i k).ow (prB k) (prA k)) = spN tv F (prA k) (prB k) := d2
      have d1' : slN (dsN tv F i k) (prA k) (prB k) (pyN tv (dsN tv F i k) (prA k) ((dsN tv F i k).ow (prA k) (prB k))) (pyN tv (dsN tv F i k) (prB k) ((dsN tv F i k).ow (prB k) (prA k))) = dsN tv F i (k + 1) := d1
      rw [d1', d2'] at hsl
      show oA (dsN tv F i (k + 1)) + (sN (fun k => cond (sb i k) (spN tv F (prA k) (prB k)) 0) k + cond (sb i k) (spN tv F (prA k) (prB k)) 0) = oA F
      rw [hs, show cond true (spN tv F (prA k) (prB k)) 0 = spN tv F (prA k) (prB k) from rfl]
      omega
    · have hs' : sb i k = false := by simpa using hs
      have e : dsN tv F i (k + 1) = dsN tv F i k := if_neg hs
      rw [e]
      refine ⟨h1, ?_⟩
      show oA (dsN tv F i k) + (sN (fun k => cond (sb i k) (spN tv F (prA k) (prB k)) 0) k + cond (sb i k) (spN tv F (prA k) (prB k)) 0) = oA F
      rw [hs', show cond false (spN tv F (prA k) (prB k)) 0 = 0 from rfl]
      omega
theorem ds_all {tv : TV} {nT i : Nat} {F : Fl} (hW : WF nT F) (hi : i < 26) (hok : okS tv F i = true) : WF nT (dsF tv F i) ∧ oA (dsF tv F i) + pdN tv F i = oA F := by
  obtain ⟨h1, h2⟩ := ds_wf hW hi hok 10 (by omega)
  exact ⟨h1.sR _, h2⟩
theorem ds_0 (tv : TV) (F : Fl) : ∀ k, k ≤ 10 → dsN tv F 0 k = F
  | 0, _ => rfl
  | k + 1, hk => by
    have e : dsN tv F 0 (k + 1) = dsN tv F 0 k := if_neg (by rw [sb_0 k (by omega)]; decide)
    rw [e]
    exact ds_0 tv F k (by omega)
theorem cl_0 (tv : TV) : ∀ n (F : Fl), oA F = 0 → clN tv n F = true
  | 0, F, h => decide_eq_true h
  | n + 1, F, h => by
    refine an_iff.mpr ⟨0, by omega, ?_⟩
    have e : dsF tv F 0 = F.sR (F.rd + 1) := by
      unfold dsF
      rw [ds_0 tv F 10 (by omega)]
    rw [okS_0, e, cl_0 tv n (F.sR (F.rd + 1)) h]
    rfl
/-- which debts a set touches -/
theorem dsN_ow (tv : TV) (F : Fl) (i : Nat) : ∀ k x y, (∀ j, j < k → sb i j = true → ¬ (x = prA j ∧ y = prB j) ∧ ¬ (x = prB j ∧ y = prA j)) → (dsN tv F i k).ow x y = F.ow x y
  | 0, _, _, _ => rfl
  | k + 1, x, y, h => by
    have ih := dsN_ow tv F i k x y (fun j hj => h j (by omega))
    by_cases hs : sb i k = true
    · have e : dsN tv F i (k + 1) = slN (dsN tv F i k) (prA k) (prB k) (pyN tv F (prA k) (F.ow (prA k) (prB k))) (pyN tv F (prB k) (F.ow (prB k) (prA k))) := if_pos hs
      obtain ⟨n1, n2⟩ := h k (by omega) hs
      rw [e]
      show uN2 (uN2 (dsN tv F i k).ow _ _ _) _ _ _ x y = _
      unfold uN2
      rw [if_neg n2, if_neg n1]
      exact ih
    · rw [show dsN tv F i (k + 1) = dsN tv F i k from if_neg hs]
      exact ih
theorem sN_one {f g : Nat → Nat} {b : Nat} : ∀ {n : Nat}, (∀ i, i < n → ¬ i = b → g i = f i) → (∀ i, f i ≤ 1) → sN f n ≤ sN g n + 1
  | 0, _, _ => Nat.zero_le _
  | n + 1, h, h1 => by
    simp only [sN]
    by_cases e : b = n
    · have := sN_congr (f := g) (g := f) (n := n) (fun i hi => h i (by omega) (by omega))
      have := h1 n
      omega
    · have := sN_one (f := f) (g := g) (b := b) (n := n) (fun i hi hne => h i (by omega) hne) h1
      have := h n (by omega) (fun z => e z.symm)
      omega
theorem mt_step {tv : TV} {F : Fl} {i a : Nat} (hi : i < 26) : mtN F a ≤ mtN (dsF tv F i) a + 1 := by
  have hex : ∃ b0, ∀ b, ¬ b = b0 → (dsN tv F i 10).ow a b = F.ow a b ∧ (dsN tv F i 10).ow b a = F.ow b a := by
    by_cases hj : ∃ j, j < 10 ∧ sb i j = true ∧ (prA j = a ∨ prB j = a)
    · obtain ⟨j, hj10, hsj, hja⟩ := hj
      refine ⟨if prA j = a then prB j else prA j, fun b hb => ?_⟩
      have no : ∀ j', j' < 10 → sb i j' = true → ¬ (a = prA j' ∧ b = prB j') ∧ ¬ (a = prB j' ∧ b = prA j') := by
        intro j' h10 hs'
        by_cases ejj : j' = j
        · subst ejj
          obtain ⟨p1, p2⟩ := pr_lt j' h10
          constructor
          · rintro ⟨r1, r2⟩
            rw [if_pos r1.symm] at hb
            exact hb r2
          · rintro ⟨r1, r2⟩
            rw [if_neg (by omega)] at hb
            exact hb r2
        · have ap := sb_apart i hi j hj10 j' h10 hsj hs' ejj
          constructor
          · rintro ⟨r1, r2⟩
            rcases hja with z | z
            · exact ap.1 (by omega)
            · exact ap.2.1 (by omega)
          · rintro ⟨r1, r2⟩
            rcases hja with z | z
            · exact ap.2.2.1 (by omega)
            · exact ap.2.2.2 (by omega)
      refine ⟨dsN_ow tv F i 10 a b no, dsN_ow tv F i 10 b a (fun j' h10 hs' => ?_)⟩
      have := no j' h10 hs'
      exact ⟨fun z => this.2 ⟨z.2, z.1⟩, fun z => this.1 ⟨z.2, z.1⟩⟩
    · have no : ∀ b j', j' < 10 → sb i j' = true → ¬ (a = prA j' ∧ b = prB j') ∧ ¬ (a = prB j' ∧ b = prA j') := by
        intro b j' h10 hs'
        exact ⟨fun z => hj ⟨j', h10, hs', Or.inl z.1.symm⟩, fun z => hj ⟨j', h10, hs', Or.inr z.1.symm⟩⟩
      refine ⟨a, fun b _ => ⟨dsN_ow tv F i 10 a b (no b), dsN_ow tv F i 10 b a (fun j' h10 hs' => ?_)⟩⟩
      have := no b j' h10 hs'
      exact ⟨fun z => this.2 ⟨z.2, z.1⟩, fun z => this.1 ⟨z.2, z.1⟩⟩
  obtain ⟨b0, hb0⟩ := hex
  have e : mtN (dsF tv F i) a = sN (fun b => if 0 < (dsN tv F i 10).ow a b ∨ 0 < (dsN tv F i 10).ow b a then 1 else 0) F.n := by
    show sN _ (dsN tv F i 10).n = _
    rw [(dsN_n tv F i 10).1]
    rfl
  rw [e]
  refine sN_one (b := b0) (fun b _ hne => ?_) (fun b => by split <;> omega)
  obtain ⟨e1, e2⟩ := hb0 b hne
  rw [e1, e2]
theorem cl_mt {tv : TV} : ∀ n (F : Fl), clN tv n F = true → ∀ a, a < F.n → mtN F a ≤ n
  | 0, F, h, a, ha => by
    have h0 : oA F = 0 := of_decide_eq_true h
    have : mtN F a = 0 := sN_z (fun b hb => by
      rw [oA_0 h0 ha hb, oA_0 h0 hb ha]
      rfl)
    omega
  | n + 1, F, h, a, ha => by
    obtain ⟨i, hi, hc⟩ := an_iff.mp h
    simp only [Bool.and_eq_true] at hc
    have := cl_mt n (dsF tv F i) hc.2 a (by
      show a < (dsN tv F i 10).n
      rw [(dsN_n tv F i 10).1]
      exact ha)
    have := mt_step (tv := tv) (F := F) (a := a) hi
    omega
theorem mm_le {F : Fl} {m : Nat} : ∀ k, (∀ a, a < k → mtN F a ≤ m) → mmN F k ≤ m
  | 0, _ => Nat.zero_le _
  | k + 1, h => by
    simp only [mmN]
    split
    · exact h k (by omega)
    · exact mm_le k (fun a ha => h a (by omega))
theorem cl_cut {tv : TV} {n : Nat} {F : Fl} (h : n < mmN F F.n) : clN tv n F = false := by
  cases e : clN tv n F with
  | false => rfl
  | true =>
    have := mm_le (F := F) (m := n) F.n (cl_mt n F e)
    omega
theorem bi_max (tv : TV) (F : Fl) : ∀ k, ∀ i, i < k → okS tv F i = true → pdN tv F i ≤ pdN tv F (biN tv F k)
  | 0, i, hi, _ => by omega
  | k + 1, i, hi, ho => by
    have ih := bi_max tv F k i
    simp only [biN]
    split
    · rename_i hc
      by_cases e : i = k
      · rw [e]
        exact Nat.le_refl _
      · have := ih (by omega) ho
        omega
    · rename_i hc
      by_cases e : i = k
      · subst e
        apply Classical.byContradiction
        intro z
        exact hc ⟨ho, by omega⟩
      · exact ih (by omega) ho
theorem cl_1 {tv : TV} {nT : Nat} {F : Fl} (hW : WF nT F) : clN tv 1 F = decide (pdN tv F (biN tv F 26) = oA F) := by
  obtain ⟨b1, b2'⟩ := biN_in tv F 26 (Nat.le_refl _)
  have hb := (ds_all hW b1 b2').2
  by_cases h : pdN tv F (biN tv F 26) = oA F
  · rw [decide_eq_true h]
    refine an_iff.mpr ⟨biN tv F 26, b1, ?_⟩
    rw [b2']
    show decide (oA (dsF tv F (biN tv F 26)) = 0) = true
    exact decide_eq_true (by omega)
  · rw [decide_eq_false h]
    cases e : clN tv 1 F with
    | false => rfl
    | true =>
      obtain ⟨i, hi, hc⟩ := an_iff.mp e
      simp only [Bool.and_eq_true] at hc
      have h0 : oA (dsF tv F i) = 0 := of_decide_eq_true hc.2
      have h1 := (ds_all hW hi hc.1).2
      have h2 := bi_max tv F 26 i hi hc.1
      exact absurd (by omega) h

