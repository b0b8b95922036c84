/-! strike: the least, what is struck -/
def nxR (l k : Nat) : Nat := (k + 1) % l
def mnR (F : Fl) (l : Nat) (v : Nat → Nat) : Nat → Nat
  | 0 => 99
  | k + 1 => if F.ow (v (nxR l k)) (v k) < mnR F l v k then F.ow (v (nxR l k)) (v k) else mnR F l v k
theorem mnR_le (F : Fl) (l : Nat) (v : Nat → Nat) : ∀ k, mnR F l v k ≤ 99
  | 0 => Nat.le_refl _
  | k + 1 => by
    have := mnR_le F l v k
    simp only [mnR]
    split <;> omega
theorem mnR_at (F : Fl) (l : Nat) (v : Nat → Nat) : ∀ k j, j < k → mnR F l v k ≤ F.ow (v (nxR l j)) (v j)
  | 0, j, hj => absurd hj (Nat.not_lt_zero j)
  | k + 1, j, hj => by
    simp only [mnR]
    by_cases e : j = k
    · rw [e]
      split <;> omega
    · have := mnR_at F l v k j (by omega)
      split <;> omega
/-- struck up to k -/
def skR (F : Fl) (l : Nat) (v : Nat → Nat) (m : Nat) : Nat → Fl
  | 0 => F
  | k + 1 => (skR F l v m k).sO (v (nxR l k)) (v k) (F.ow (v (nxR l k)) (v k) - m)
theorem skR_n (F : Fl) (l : Nat) (v : Nat → Nat) (m : Nat) : ∀ k, (skR F l v m k).n = F.n ∧ (skR F l v m k).rd = F.rd ∧ (skR F l v m k).ni = F.ni ∧ (skR F l v m k).ki = F.ki
  | 0 => ⟨rfl, rfl, rfl, rfl⟩
  | k + 1 => skR_n F l v m k
/-- what is not yet struck stands -/
theorem skR_ow {F : Fl} {l : Nat} {v : Nat → Nat} {m : Nat} (hv : ∀ a b, a < l → b < l → v a = v b → a = b) : ∀ k j, k ≤ j → j < l → (skR F l v m k).ow (v (nxR l j)) (v j) = F.ow (v (nxR l j)) (v j)
  | 0, j, _, _ => rfl
  | k + 1, j, hkj, hj => by
    show uN2 (skR F l v m k).ow (v (nxR l k)) (v k) _ (v (nxR l j)) (v j) = _
    unfold uN2
    rw [if_neg (fun z => by
      have := hv j k hj (by omega) z.2
      omega)]
    exact skR_ow hv k j (by omega) hj
theorem nxR_lt {l k : Nat} (h : 0 < l) : nxR l k < l := Nat.mod_lt _ h
theorem c_min_rest {d n l : Nat} {tv : TV} {nT : Nat} {S : St} {K : KT} {F : Fl} {v : Nat → Nat} {N : Nat} (hd : 10 ≤ d) (hX : FX tv nT S 0 F) : True := trivial
