/-! THE TABLES ARE WHAT THE BYTES SAY -/
def ckI (i : Instr) (pc t : Nat) (c : Int32) (sw : List (Int32 × Nat)) : Bool := match i with
  | .iconst v => decide (Int32.ofInt v = c)
  | .bipush v => decide ((Int8.ofInt v).toInt32 = c)
  | .sipush v => decide ((Int16.ofInt v).toInt32 = c)
  | .iinc _ v => decide (Int32.ofInt v = c)
  | .ifCond _ o => decide ((pc : Int) + o = (t : Int))
  | .if_icmp _ o => decide ((pc : Int) + o = (t : Int))
  | .goto o => decide ((pc : Int) + o = (t : Int))
  | .ifnonnull o => decide ((pc : Int) + o = (t : Int))
  | .tableswitch d lo hi offs => decide ((pc : Int) + d = (t : Int)) && decide (hi - lo + 1 = (sw.length : Int)) && decide (offs.size = sw.length) && decide (0 ≤ lo) && decide (hi < 100000)
      && (List.range sw.length).all fun k => match nth sw k, offs[k]? with
        | some q, some o => decide (q.1 = Int32.ofInt (lo + k)) && decide ((pc : Int) + o = (q.2 : Int))
        | _, _ => false
  | .lookupswitch d ps => decide ((pc : Int) + d = (t : Int)) && (ps.toList.zip (ps.toList.drop 1)).all (fun (a, next) => a.1 < next.1) && decide (ps.toList.length = sw.length)
      && (List.range sw.length).all fun k => match nth sw k, ps.toList[k]? with
        | some q, some o => decide (q.1 = Int32.ofInt o.1) && decide ((pc : Int) + o.2 = (q.2 : Int)) && decide (0 ≤ o.1) && decide (o.1 < 100000)
        | _, _ => false
  | _ => true
/-- how long an instruction is (0: a switch) -/
def lenI (i : Instr) : Nat := match i with
  | .tableswitch _ _ _ _ => 0
  | .lookupswitch _ _ => 0
  | .bipush _ => 2 | .ldc _ => 2 | .iload _ => 2 | .lload _ => 2 | .aload _ => 2 | .istore _ => 2 | .lstore _ => 2 | .astore _ => 2 | .newarray _ => 2
  | .sipush _ => 3 | .ldc_w _ => 3 | .ldc2_w _ => 3 | .iinc _ _ => 3 | .ifCond _ _ => 3 | .if_icmp _ _ => 3 | .goto _ => 3 | .ifnonnull _ => 3 | .getfield _ => 3 | .putfield _ => 3 | .getstatic _ => 3 | .anewarray _ => 3 | .new _ => 3 | .invokevirtual _ => 3 | .invokestatic _ => 3 | .invokespecial _ => 3
  | _ => 1
/-- a store goes to a local that there is -/
def locI (i : Instr) (nL : Nat) : Bool := match i with
  | .istore k => Nat.ble (k + 1) nL
  | .istore_n k => Nat.ble (k.val + 1) nL
  | .astore k => Nat.ble (k + 1) nL
  | .astore_n k => Nat.ble (k.val + 1) nL
  | .lstore k => Nat.ble (k + 2) nL
  | .lstore_n k => Nat.ble (k.val + 2) nL
  | .iinc k _ => Nat.ble (k + 1) nL
  | _ => true
/-- a final field is set in a constructor alone -/
def pfI (i : Instr) (Y : MT) : Bool := match i with
  | .putfield ix => (match fld Y.1.2.1 ix with
    | some (ci, _, _, true) => decide (Y.2.1.name = "<init>") && Nat.beq ci Y.1.2.1
    | _ => true)
  | _ => true
def ckE (Y : MT) (pc : Nat) : Bool := match codeAt Y pc with
  | none => true
  | some (i, n, t, c, sw) => decide (decode Y.2.2.1 pc = .ok (i, n - pc)) && Nat.ble pc n && ckI i pc t c sw && (Nat.beq (lenI i) 0 || Nat.beq n (pc + lenI i)) && locI i Y.2.2.2.1 && pfI i Y
/-- a method's table -/
def ckM (Y : MT) : Bool := (List.range (16 * Y.1.1.length)).all (ckE Y)
def ckP (Y : MT) : Prop := ∀ pc, pc < 16 * Y.1.1.length → ckE Y pc = true
theorem ckP_of {Y : MT} (h : ckM Y = true) : ckP Y := fun pc hl => List.all_eq_true.mp h pc (List.mem_range.mpr hl)
theorem ckM_at {Y : MT} (h : ckP Y) {pc : Nat} {i : Instr} {n t : Nat} {c : Int32} {sw : List (Int32 × Nat)} (hc : codeAt Y pc = some (i, n, t, c, sw)) : decode Y.2.2.1 pc = .ok (i, n - pc) ∧ pc ≤ n ∧ ckI i pc t c sw = true ∧ (lenI i = 0 ∨ n = pc + lenI i) ∧ locI i Y.2.2.2.1 = true ∧ pfI i Y = true := by
  have hl : pc < 16 * Y.1.1.length := by
    rcases Nat.lt_or_ge (pc / 16) Y.1.1.length with g | g
    · omega
    · rw [codeAt, nth_get, List.getElem?_eq_none g] at hc
      cases hc
  have h1 := h pc hl
  simp only [ckE, hc, Bool.and_eq_true, decide_eq_true_eq] at h1
  refine ⟨h1.1.1.1.1.1, Nat.le_of_ble_eq_true h1.1.1.1.1.2, h1.1.1.1.2, ?_, h1.1.2, h1.2⟩
  rcases (Bool.or_eq_true _ _).mp h1.1.1.2 with z | z
  · exact Or.inl (Nat.eq_of_beq_eq_true z)
  · exact Or.inr (Nat.eq_of_beq_eq_true z)
/-- a method's place among the others: its class, its type, its name -/
def rkOf (ret : Option FieldType) : Nat := match ret with
  | none => 0
  | some .int => 1
  | some .long => 2
  | some .boolean => 4
  | some (.object _) => 3
  | _ => 9
def ckN (Y : MT) : Bool := decide (Y.2.1.cls = own8 Y.1.2.1) && plainName Y.2.1.cls && decide (Y.2.1.cls ≠ "java/lang/invoke/MethodHandle") && decide (Y.2.1.cls ≠ "java/lang/invoke/VarHandle") && decide (rkOf Y.2.2.2.2 = Y.1.2.2.2.2) && Nat.ble Y.2.2.2.1 40
def ckL (own : Nat) (e : LK) : Bool := match e.1 with
  | 0 => ckN e.2.1 && decide ((parseMethodDescriptor e.2.1.2.1.desc).map (fun d => d.parameters.length) = some e.2.2)
  | 1 => ckN e.2.1 && decide ((parseMethodDescriptor e.2.1.2.1.desc).map (fun d => d.parameters.length) = some e.2.2)
  | 2 => ckN e.2.1 && decide ((parseMethodDescriptor e.2.1.2.1.desc).map (fun d => d.parameters.length) = some e.2.2) && decide (e.2.1.2.1.name = "<init>") && decide (e.2.1.2.2.2.2 = none)
  | 11 => ckN e.2.1 && decide ((parseMethodDescriptor e.2.1.2.1.desc).map (fun d => d.parameters.length) = some e.2.2) && decide (e.2.1.2.1 = yX5_within) && Nat.beq own 0
  | 12 => ckN e.2.1 && decide ((parseMethodDescriptor e.2.1.2.1.desc).map (fun d => d.parameters.length) = some e.2.2) && decide (e.2.1.2.1.name = "<init>") && decide (e.2.1.2.2.2.2 = none) && Nat.beq own 5
  | _ => true
set_option maxRecDepth 100000 in
theorem ckL_ok : ((enum lnkT 0).all fun q => q.2.all fun e => ckL q.1 e.2) = true := by decide +kernel
/-- the nest's links, by their places -/
theorem ckNest : (lnk_0.all fun e => cond (Nat.beq e.2.1 11) (Nat.beq e.1 72) true) = true ∧ (lnk_5.all fun e => cond (Nat.beq e.2.1 12) ((Nat.beq e.1 34 && decide (e.2.2.1.2.1 = yX1_init)) || (Nat.beq e.1 41 && decide (e.2.2.1.2.1 = yX3_init))) true) = true := by decide +kernel
def ckF (_own : Nat) (e : Nat × Nat × Nat × Bool) : Bool := match nth vwCl e.1 with
  | none => false
  | some q => Nat.ble (e.2.1 + 1) q.2.2 && decide (fty e.1 e.2.1 = e.2.2.1) && decide ((q.2.1 e.2.1).2.2.2 = e.2.2.2) && decide ((q.2.1 e.2.1).1 = own8 e.1) && Nat.ble e.1 6
theorem ckF_ok : ((enum fldT 0).all fun q => q.2.all fun e => ckF q.1 e.2) = true := by decide +kernel
def ckS (own idx j : Nat) : Bool := Nat.ble 61 j && Nat.ble j 64 && ((Nat.beq own 5) || (Nat.beq own 0 && ((Nat.beq idx 24 && Nat.beq j 61) || (Nat.beq idx 107 && Nat.beq j 62) || (Nat.beq idx 131 && Nat.beq j 63))))
theorem ckS_ok : ((enum sflT 0).all fun q => q.2.all fun e => ckS q.1 e.1 e.2) = true := by decide +kernel
theorem enum_all {α : Type} {T : List (List (Nat × α))} {f : Nat → Nat → α → Bool} (h : ((enum T 0).all fun q => q.2.all fun e => f q.1 e.1 e.2) = true) {own idx : Nat} {l : List (Nat × α)} {e : α} (h1 : nth T own = some l) (h2 : lkp l idx = some e) : f own idx e = true := by
  have a := enum_nth T 0 own l h1
  have b := List.all_eq_true.mp h _ a
  have c := List.all_eq_true.mp b (idx, e) (lkp_mem l idx e h2)
  simpa using c

