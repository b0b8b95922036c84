/-! Plain dancers, by the rule that is there at first: their numbers don't matter -/
def tv0 : TV := fun _ p _ => match p with
  | 2 => 4
  | _ => 1
def z9 : Nat → Nat := fun _ => 0
def P0 (F : Fl) : Prop := ∀ a, F.ki a = 0
def Fl.z (F : Fl) : Fl := mkF F.n F.rd F.ni F.ru F.ki z9 F.dn F.ow
theorem vN0 (F : Fl) (a o : Nat) : vN tv0 F 0 a o = 1 := by
  unfold vN
  rw [if_neg (by decide)]
  show wI 1 99 = 1
  decide
theorem vN1 (F : Fl) (a o : Nat) : vN tv0 F 1 a o = 1 := by
  unfold vN
  rw [if_pos rfl]
  rfl
theorem vN2 (F : Fl) (a o : Nat) : vN tv0 F 2 a o = 4 := by
  unfold vN
  rw [if_neg (by decide)]
  show wI 4 99 = 4
  decide
theorem py0 {F : Fl} {a : Nat} (h : F.ki a = 0) (o : Nat) : pyN tv0 F a o = wN 1 o := by
  unfold pyN
  rw [h]
  show wN (vN tv0 F 0 a o) o = _
  rw [vN0]
theorem br0 {F : Fl} {a : Nat} (h : F.ki a = 0) : brN tv0 F a = 4 := by
  unfold brN
  rw [h]
  show wN (vN tv0 F 2 a 0) 99 = _
  rw [vN2]
  decide
theorem wl0 {F : Fl} {a b : Nat} (h : F.ki a = 0) : wlN tv0 F a b = true := by
  unfold wlN
  rw [h]
  show vYes tv0 F a b = true
  unfold vYes
  rw [vN1]
  decide
theorem my0 {F : Fl} {a b : Nat} (ha : F.ki a = 0) (hb : F.ki b = 0) : myN tv0 F a b = ((decide (0 < F.ow a b) || decide (0 < F.ow b a)) && true && true && decide (F.dn a < 4) && decide (F.dn b < 4)) := by
  unfold myN
  rw [wl0 ha, wl0 hb, br0 ha, br0 hb]
theorem my_z {F : Fl} (h : P0 F) (a b : Nat) : myN tv0 F.z a b = myN tv0 F a b := by
  rw [my0 (F := F) (h a) (h b), my0 (F := F.z) (h a) (h b)]
  rfl
theorem py_z {F : Fl} (h : P0 F) (a o : Nat) : pyN tv0 F.z a o = pyN tv0 F a o := by
  rw [py0 (F := F) (h a), py0 (F := F.z) (h a)]
theorem zow (F : Fl) : F.z.ow = F.ow := rfl
theorem sp_z {F : Fl} (h : P0 F) (a b : Nat) : spN tv0 F.z a b = spN tv0 F a b := by
  unfold spN
  rw [py_z h, py_z h, zow]
theorem zdn (F : Fl) : F.z.dn = F.dn := rfl
theorem sO_z (F : Fl) (a b v : Nat) : (F.sO a b v).z = F.z.sO a b v := rfl
theorem sD_z (F : Fl) (a v : Nat) : (F.sD a v).z = F.z.sD a v := rfl
theorem sR_z (F : Fl) (v : Nat) : (F.sR v).z = F.z.sR v := rfl
theorem sl_z (F : Fl) (a b p q : Nat) : slN F.z a b p q = (slN F a b p q).z := by
  unfold slN
  rw [sD_z, sD_z, sO_z, sO_z, zow, zdn]
theorem stp_z {F : Fl} (h : P0 F) (a b : Nat) : stpN tv0 F.z a b = (stpN tv0 F a b).z := by
  unfold stpN
  rw [py_z h, py_z h, sl_z, zow]
theorem r1_z {G : Fl} (h : P0 G) (p : Nat) (m : Int32) (a b : Nat) : (r1 tv0 (p, m, G) a b).2.2.ki = G.ki ∧ r1 tv0 (p, m, G.z) a b = ((r1 tv0 (p, m, G) a b).1, (r1 tv0 (p, m, G) a b).2.1, (r1 tv0 (p, m, G) a b).2.2.z) := by
  unfold r1
  dsimp only
  rw [my_z h, sp_z h, stp_z h]
  by_cases c : b < G.n ∧ m &&& bt a b = 0 ∧ myN tv0 G a b = true
  · rw [if_pos c, if_pos (show b < G.z.n ∧ m &&& bt a b = 0 ∧ myN tv0 G a b = true from c)]
    exact ⟨rfl, rfl⟩
  · rw [if_neg c, if_neg (show ¬ (b < G.z.n ∧ m &&& bt a b = 0 ∧ myN tv0 G a b = true) from c)]
    exact ⟨rfl, rfl⟩
theorem rA_z {F : Fl} (h : P0 F) : ∀ k, (rA tv0 F k).2.2.ki = F.ki ∧ rA tv0 F.z k = ((rA tv0 F k).1, (rA tv0 F k).2.1, (rA tv0 F k).2.2.z)
  | 0 => ⟨rfl, rfl⟩
  | k + 1 => by
    obtain ⟨h1, h2⟩ := rA_z h k
    have hp : P0 (rA tv0 F k).2.2 := fun a => by rw [h1]; exact h a
    simp only [rA]
    rw [h2]
    obtain ⟨q1, q2⟩ := r1_z hp (rA tv0 F k).1 (rA tv0 F k).2.1 (prA k) (prB k)
    exact ⟨q1.trans h1, q2⟩
theorem rd_z {F : Fl} (h : P0 F) : rdF tv0 F.z = (rdF tv0 F).z ∧ rdP tv0 F.z = rdP tv0 F ∧ rdZ tv0 F.z = rdZ tv0 F ∧ P0 (rdF tv0 F) := by
  obtain ⟨h1, h2⟩ := rA_z h 10
  refine ⟨?_, ?_, ?_, fun a => ?_⟩
  · show (rA tv0 F.z 10).2.2.sR ((rA tv0 F.z 10).2.2.rd + 1) = ((rA tv0 F 10).2.2.sR ((rA tv0 F 10).2.2.rd + 1)).z
    rw [h2]
    generalize rA tv0 F 10 = A
    rfl
  · show (rA tv0 F.z 10).1 = (rA tv0 F 10).1
    rw [h2]
  · show (rA tv0 F.z 10).2.1 = (rA tv0 F 10).2.1
    rw [h2]
  · rw [(rdF_all tv0 F).2.2.2]
    exact h a
theorem enG_z : ∀ (m k : Nat) (F : Fl), P0 F → enG tv0 m k F.z = enG tv0 m k F
  | 0, _, _, _ => rfl
  | m + 1, k, F, h => by
    obtain ⟨h1, h2, -, h4⟩ := rd_z h
    simp only [enG]
    rw [h1, h2, enG_z m (k + 1) _ h4]
theorem itF_z {F : Fl} (h : P0 F) : ∀ k, P0 (itF tv0 F k) ∧ itF tv0 F.z k = (itF tv0 F k).z
  | 0 => ⟨h, rfl⟩
  | k + 1 => by
    obtain ⟨a1, a2⟩ := itF_z h k
    obtain ⟨h1, -, -, h4⟩ := rd_z a1
    simp only [itF]
    rw [a2, h1]
    exact ⟨h4, rfl⟩
theorem okS_z {F : Fl} (h : P0 F) (i : Nat) : okS tv0 F.z i = okS tv0 F i := by
  have e : (fun k => !(sb i k) || okN tv0 F.z k) = fun k => !(sb i k) || okN tv0 F k := funext fun k => by
    unfold okN
    rw [my_z h]
    rfl
  unfold okS
  rw [e]
theorem pdN_z {F : Fl} (h : P0 F) (i : Nat) : pdN tv0 F.z i = pdN tv0 F i := by
  have e : (fun k => cond (sb i k) (spN tv0 F.z (prA k) (prB k)) 0) = fun k => cond (sb i k) (spN tv0 F (prA k) (prB k)) 0 := funext fun k => by rw [sp_z h]
  unfold pdN
  rw [e]
theorem biN_z {F : Fl} (h : P0 F) : ∀ k, biN tv0 F.z k = biN tv0 F k
  | 0 => rfl
  | k + 1 => by
    simp only [biN]
    rw [okS_z h, pdN_z h, pdN_z h, biN_z h k]
theorem dsN_z {F : Fl} (h : P0 F) (i k : Nat) : dsN tv0 F.z i k = (dsN tv0 F i k).z := by
  induction k with
  | zero => rfl
  | succ k ih =>
    simp only [dsN]
    rw [ih, py_z h, py_z h, zow, sl_z]
    by_cases c : sb i k = true
    · rw [if_pos c, if_pos c]
    · rw [if_neg c, if_neg c]
theorem ds_z {F : Fl} (h : P0 F) (i : Nat) : dsF tv0 F.z i = (dsF tv0 F i).z ∧ P0 (dsF tv0 F i) := by
  refine ⟨?_, fun a => ?_⟩
  · show (dsN tv0 F.z i 10).sR (F.z.rd + 1) = ((dsN tv0 F i 10).sR (F.rd + 1)).z
    rw [dsN_z h, sR_z]
    rfl
  · show (dsN tv0 F i 10).ki a = 0
    rw [(dsN_n tv0 F i 10).2.2.2.2.1]
    exact h a
theorem clN_z : ∀ (n : Nat) (F : Fl), P0 F → clN tv0 n F.z = clN tv0 n F
  | 0, _, _ => rfl
  | n + 1, F, h => by
    have e : (fun i => okS tv0 F.z i && clN tv0 n (dsF tv0 F.z i)) = fun i => okS tv0 F i && clN tv0 n (dsF tv0 F i) := funext fun i => by
      obtain ⟨a1, a2⟩ := ds_z h i
      rw [okS_z h, a1, clN_z n _ a2]
    simp only [clN]
    rw [e]
theorem snN_z {F : Fl} (h : P0 F) : ∀ m k, snN tv0 F.z m k = snN tv0 F m k
  | 0, _ => rfl
  | m + 1, k => by
    simp only [snN]
    rw [clN_z k F h, snN_z h m (k + 1)]
theorem kp_z (F : Fl) (k : Nat) : kpN F.z k = kpN F k := by
  induction k with
  | zero => rfl
  | succ k ih =>
    simp only [kpN]
    rw [ih]
    rfl
theorem be_z {F : Fl} (h : P0 F) (w : Nat) : beI tv0 F.z w = beI tv0 F w := by
  unfold beI
  split
  · rw [biN_z h]
  · rw [biN_z h, pdN_z h]
  · unfold siN
    rw [(rd_z h).2.2.1]
    rfl
  · rw [(rd_z h).2.1]
  · rw [snN_z h]
  · rfl
  · rfl
  · exact enG_z 61 0 F h
  · exact congrArg (fun x => x.1) (kp_z F F.n)
/-! a ring of n, each of whom owes D: what is to be seen -/
def RF (n D : Nat) (nu : Nat → Nat) : Fl := mkF n 0 0 0 (fun _ => 0) nu (fun _ => 0) (fun a b => if b = (a + 1) % n then D else 0)
theorem RF_P (n D : Nat) (nu : Nat → Nat) : P0 (RF n D nu) := fun _ => rfl
/-- how many bits, as Integer.bitCount works it out -/
def us (x : Int32) (k : Int32) : Int32 := (x.toUInt32 >>> (k.toUInt32 &&& Int32.toUInt32 31)).toInt32
def bc1 (x : Int32) : Int32 := x - (us x 1 &&& 1431655765)
def bc2 (x : Int32) : Int32 := (x &&& 858993459) + (us x 2 &&& 858993459)
def bc3 (x : Int32) : Int32 := (x + us x 4) &&& 252645135
def bc4 (x : Int32) : Int32 := x + us x 8
def bc5 (x : Int32) : Int32 := x + us x 16
def bcI (x : Int32) : Int32 := bc5 (bc4 (bc3 (bc2 (bc1 x)))) &&& 63
/-- the digits 1 .. n; turned round, as the law goes -/
def dgA : Nat → Nat
  | 0 => 0
  | p + 1 => 10 * dgA p + p + 1
def lfA (n : Nat) : Nat → Nat
  | 0 => dgA n
  | i + 1 => lfA n i / 10
def rvA (n : Nat) : Nat → Nat
  | 0 => 0
  | i + 1 => 10 * rvA n i + lfA n i % 10
/-- the ring that is read -/
def rgL (n N : Nat) : Bool := match rdR n 5 N 0 0 (fun _ => 0) with
  | some (r, l, _) => Nat.beq r 0 && Nat.beq l n
  | none => false
def rgV (n N : Nat) : Nat → Nat := match rdR n 5 N 0 0 (fun _ => 0) with
  | some (_, _, v) => v
  | none => fun _ => 0
def rgOK (n N : Nat) : Bool := rgL n N && al (fun k => decide (rgV n N k < n)) n && al (fun a => al (fun b => decide (a = b) || decide (¬ rgV n N a = rgV n N b)) n) n
theorem rg_of {n N : Nat} (h : rgOK n N = true) : rdR n 5 N 0 0 (fun _ => 0) = some (0, n, rgV n N) ∧ (∀ k, k < n → rgV n N k < n) ∧ ∀ a b, a < n → b < n → rgV n N a = rgV n N b → a = b := by
  unfold rgOK at h
  simp only [Bool.and_eq_true] at h
  obtain ⟨⟨h1, h2⟩, h3⟩ := h
  refine ⟨?_, fun k hk => of_decide_eq_true (al_iff.mp h2 k hk), fun a b ha hb e => ?_⟩
  · unfold rgL at h1
    unfold rgV
    split at h1
    · rename_i r l v hr
      simp only [Bool.and_eq_true] at h1
      have e1 := Nat.eq_of_beq_eq_true h1.1
      have e2 := Nat.eq_of_beq_eq_true h1.2
      subst e1
      subst e2
      rw [hr]
    · cases h1
  · have h4 := al_iff.mp (al_iff.mp h3 a ha) b hb
    rcases (Bool.or_eq_true _ _).mp h4 with z | z
    · exact of_decide_eq_true z
    · exact absurd e (of_decide_eq_true z)
def hfN (n : Nat) : Nat := if n = 2 then 2 else n / 2
def lsN (n D : Nat) : Int32 := nI (n * D) - (if n = 2 then 8 else nI (4 * n / 2))
def mn4 (D k : Nat) : Nat := D - (if (if D < 4 then D else 4) < k then (if D < 4 then D else 4) else k)
def chA (n D : Nat) : Bool := decide (oA (RF n D z9) = n * D) && decide (beI tv0 (RF n D z9) 5 = 0) && decide (beI tv0 (RF n D z9) 6 = nI n) && decide (beI tv0 (RF n D z9) 8 = 0) && al (fun p => decide (oS (RF n D z9) p = D) && decide (oT (RF n D z9) p = D) && myN tv0 (RF n D z9) p ((p + 1) % n)) n
def chB (n : Nat) : Bool := decide (oA (RF n 0 z9) = 0) && decide (beI tv0 (RF n 0 z9) 4 = 0) && decide (beI tv0 (RF n 0 z9) 6 = 0) && decide (beI tv0 (RF n 0 z9) 7 = 0) && decide (beI tv0 (RF n 0 z9) 8 = -1)
def chC (n D : Nat) : Bool := rgOK n (dgA n) && rgOK n (rvA n n) && decide (mnR (RF n D z9) n (rgV n (dgA n)) n = D) && (decide (n = 2) || decide (mnR (RF n D z9) n (rgV n (rvA n n)) n = 0)) && al (fun a => al (fun b => decide ((skR (RF n D z9) n (rgV n (dgA n)) D n).ow a b = 0)) n) n && al (fun i => decide (0 < lfA n i)) n && decide (lfA n n = 0)
def chD (n D : Nat) : Bool := decide (bcI (beI tv0 (RF n D z9) 2) = nI (n % 2)) && decide (beI tv0 (RF n D z9) 1 = nI (hfN n)) && decide (beI tv0 (RF n D z9) 3 = nI (hfN n))
def chE (n D : Nat) : Bool := decide (¬ n = 2) || (al (fun k => decide (rnI (itF tv0 (RF n D z9) k) 2 0 1 = nI (mn4 D k)) && decide (rnI (itF tv0 (RF n D z9) k) 0 0 1 = nI (2 * mn4 D k))) 8 && decide (beI tv0 (RF n D z9) 7 = nI (if D < 4 then D else 4)) && decide (beI tv0 (RF n D z9) 4 = if D < 4 then nI D else -1))
def chF (n D : Nat) : Bool := decide (¬ rnI (itF tv0 (RF n D z9) 40) 0 0 1 < lsN n D) && decide (beI tv0 (RF n D z9) 7 ≤ 20) && decide (1 ≤ beI tv0 (RF n D z9) 7)
def chG (n D : Nat) : Bool := decide (rdP tv0 (RF n D z9) = hfN n) && decide (oA (rdF tv0 (RF n D z9)) = n * D - hfN n) && decide (hfN n ≤ n * D) && decide (sN (rdF tv0 (RF n D z9)).dn n = n / 2 * 2)
def cuT (f : Nat → Nat → Bool) : Bool := al (fun i => al (fun j => f (i + 2) (j + 1)) 9) 4
theorem cuT_at {f : Nat → Nat → Bool} (h : cuT f = true) {n D : Nat} (h2 : 2 ≤ n) (h5 : n ≤ 5) (d1 : 1 ≤ D) (d9 : D ≤ 9) : f n D = true := by
  have := al_iff.mp (al_iff.mp h (n - 2) (by omega)) (D - 1) (by omega)
  rw [show n - 2 + 2 = n by omega, show D - 1 + 1 = D by omega] at this
  exact this
theorem chA_ok : cuT chA = true := by decide +kernel
theorem chB_ok : al (fun i => chB (i + 2)) 4 = true := by decide +kernel
theorem chC_ok : cuT chC = true := by decide +kernel
theorem chD_ok : cuT chD = true := by decide +kernel
theorem chE_ok : cuT chE = true := by decide +kernel
theorem chF_ok : cuT chF = true := by decide +kernel
theorem chG_ok : cuT chG = true := by decide +kernel
