/-! ONE INSTRUCTION OF THE MACHINE AM -/
def nnSet (S : St) (j g k : Nat) : St := (S.1, S.2.1, up3 S.2.2.1 j g k true, S.2.2.2)
def ivSet (S : St) (j g k : Nat) (v : Int32) : St := (up3 S.1 j g k v, S.2)
/-- a new cell: 0 everywhere, nothing set; its length, where that varies -/
def mkC (S : St) (j g n : Nat) : St := (zr3 S.1 j g 0, S.2.1, zr3 S.2.2.1 j g false, (if j = 31 then upN S.2.2.2.1 g n else S.2.2.2.1), S.2.2.2.2 + 1)
/-- a call of a method of the program: the arguments, what it may make, how it goes on -/
def goC (Y : MT) (call : CT) (P : PT) (n : Nat) (L : List (Option AV)) (S : St) (fc fs : Nat) (Z : MT) (q : Option (List AV × List AV)) : Prop := match q with
  | none => False
  | some (as, rest) => cond (Nat.ble (catS rest) 8 && Nat.ble (catS as) Z.2.2.2.1)
      (cond (Nat.beq Z.1.2.2.1 0 && Nat.beq Z.1.2.2.2.1 0)
        (call Z as S fun v S' => P n L (v.toList ++ rest) S' fc fs)
        (fc + Z.1.2.2.1 ≤ Y.1.2.2.1 ∧ fs + Z.1.2.2.2.1 ≤ Y.1.2.2.2.1 ∧ call Z as S fun v S' => (Z.1.2.2.1 < 1000 → S'.2.2.2.2 = S.2.2.2.2 + Z.1.2.2.1) ∧ P n L (v.toList ++ rest) S' (fc + Z.1.2.2.1) (fs + Z.1.2.2.2.1)))
      False
/-- the receiver is of the method's class -/
def rcv (Z : MT) (q : Option (List AV × List AV)) : Bool := match q with
  | some (Sum.inr (Sum.inr (some r)) :: _, _) => Nat.ble (clsP r.1) 6 && Nat.beq (clsP r.1) Z.1.2.1
  | _ => false
def chI (S : St) (j g : Nat) (i : Int32) (k : Nat) : Prop := i = nI k ∧ k < aln S.2.2.2.1 j g
/-- so few cells were made in this frame that their number is known -/
def few (fc : Nat) (h : Prop) : Prop := cond (Nat.blt fc 1000) h False
def G (Y : MT) (call : CT) (K : KT) (P : PT) (i : Instr) (n t : Nat) (c : Int32) (sw : List (Int32 × Nat)) (L : List (Option AV)) (st : List AV) (S : St) (fc fs : Nat) : Prop :=
  match i with
  | .iconst _ => P n L (aI c :: st) S fc fs
  | .bipush _ => P n L (aI c :: st) S fc fs
  | .sipush _ => P n L (aI c :: st) S fc fs
  | .lconst z => P n L (aL (Int64.ofNat z.val) :: st) S fc fs
  | .aconst_null => P n L (aN :: st) S fc fs
  | .ldc_w ix => (match ick Y.1.2.1 ix with
      | some v => P n L (aI v :: st) S fc fs
      | none => False)
  | .ldc2_w ix => (match lck Y.1.2.1 ix with
      | some v => P n L (aL v :: st) S fc fs
      | none => False)
  | .iload k => getI L k fun x => P n L (aI x :: st) S fc fs
  | .iload_n k => getI L k.val fun x => P n L (aI x :: st) S fc fs
  | .lload k => getJ L k fun x => P n L (aL x :: st) S fc fs
  | .lload_n k => getJ L k.val fun x => P n L (aL x :: st) S fc fs
  | .aload k => getA L k fun x => P n L (Sum.inr (Sum.inr x) :: st) S fc fs
  | .aload_n k => getA L k.val fun x => P n L (Sum.inr (Sum.inr x) :: st) S fc fs
  | .istore k => popI st fun x r => P n (putL L k (aI x)) r S fc fs
  | .istore_n k => popI st fun x r => P n (putL L k.val (aI x)) r S fc fs
  | .lstore k => popJ st fun x r => P n (putL L k (aL x)) r S fc fs
  | .lstore_n k => popJ st fun x r => P n (putL L k.val (aL x)) r S fc fs
  | .astore k => popR st fun j g r => P n (putL L k (aR j g)) r S fc fs
  | .astore_n k => (match st with
    | Sum.inr (Sum.inr q) :: r => P n (putL L k.val (Sum.inr (Sum.inr q))) r S fc fs
    | _ => False)
  | .iinc k _ => getI L k fun x => P n (putL L k (aI (x + c))) st S fc fs
  | .iadd => popI st fun y r => popI r fun x r => P n L (aI (x + y) :: r) S fc fs
  | .isub => popI st fun y r => popI r fun x r => P n L (aI (x - y) :: r) S fc fs
  | .imul => popI st fun y r => popI r fun x r => P n L (aI (x * y) :: r) S fc fs
  | .iand => popI st fun y r => popI r fun x r => P n L (aI (x &&& y) :: r) S fc fs
  | .ior => popI st fun y r => popI r fun x r => P n L (aI (x ||| y) :: r) S fc fs
  | .ixor => popI st fun y r => popI r fun x r => P n L (aI (x ^^^ y) :: r) S fc fs
  | .idiv => popI st fun y r => popI r fun x r => ¬ y = 0 ∧ P n L (aI (x / y) :: r) S fc fs
  | .irem => popI st fun y r => popI r fun x r => ¬ y = 0 ∧ P n L (aI (x - x / y * y) :: r) S fc fs
  | .ishl => popI st fun y r => popI r fun x r => P n L (aI (x <<< (y &&& 31)) :: r) S fc fs
  | .ishr => popI st fun y r => popI r fun x r => P n L (aI (x >>> (y &&& 31)) :: r) S fc fs
  | .iushr => popI st fun y r => popI r fun x r => P n L (aI (x.toUInt32 >>> (y.toUInt32 &&& Int32.toUInt32 31)).toInt32 :: r) S fc fs
  | .ineg => popI st fun x r => P n L (aI (-x) :: r) S fc fs
  | .i2l => popI st fun x r => P n L (aL x.toInt64 :: r) S fc fs
  | .l2i => popJ st fun x r => P n L (aI x.toInt32 :: r) S fc fs
  | .i2b => popI st fun x r => P n L (aI x.toInt8.toInt32 :: r) S fc fs
  | .i2s => popI st fun x r => P n L (aI x.toInt16.toInt32 :: r) S fc fs
  | .i2c => popI st fun x r => P n L (aI (x.toUInt32 % 65536).toInt32 :: r) S fc fs
  | .ladd => popJ st fun y r => popJ r fun x r => P n L (aL (x + y) :: r) S fc fs
  | .lsub => popJ st fun y r => popJ r fun x r => P n L (aL (x - y) :: r) S fc fs
  | .lmul => popJ st fun y r => popJ r fun x r => P n L (aL (x * y) :: r) S fc fs
  | .ldiv => popJ st fun y r => popJ r fun x r => ¬ y = 0 ∧ P n L (aL (x / y) :: r) S fc fs
  | .lrem => popJ st fun y r => popJ r fun x r => ¬ y = 0 ∧ P n L (aL (x - x / y * y) :: r) S fc fs
  | .lcmp => popJ st fun y r => popJ r fun x r => P n L (aI (lg_cmp x y) :: r) S fc fs
  | .dup => popS st fun v r => P n L (v :: v :: r) S fc fs
  | .dup2 => popS st fun v r => popS r fun u r => P n L (v :: u :: v :: u :: r) S fc fs
  | .pop => popS st fun _ r => P n L r S fc fs
  | .ifCond .eq _ => popI st fun x r => (x = 0 → P t L r S fc fs) ∧ (¬ x = 0 → P n L r S fc fs)
  | .ifCond .ne _ => popI st fun x r => (¬ x = 0 → P t L r S fc fs) ∧ (x = 0 → P n L r S fc fs)
  | .ifCond .lt _ => popI st fun x r => (x < 0 → P t L r S fc fs) ∧ (¬ x < 0 → P n L r S fc fs)
  | .ifCond .ge _ => popI st fun x r => (0 ≤ x → P t L r S fc fs) ∧ (¬ 0 ≤ x → P n L r S fc fs)
  | .ifCond .gt _ => popI st fun x r => (0 < x → P t L r S fc fs) ∧ (¬ 0 < x → P n L r S fc fs)
  | .ifCond .le _ => popI st fun x r => (x ≤ 0 → P t L r S fc fs) ∧ (¬ x ≤ 0 → P n L r S fc fs)
  | .if_icmp .eq _ => popI st fun y r => popI r fun x r => (x = y → P t L r S fc fs) ∧ (¬ x = y → P n L r S fc fs)
  | .if_icmp .ne _ => popI st fun y r => popI r fun x r => (¬ x = y → P t L r S fc fs) ∧ (x = y → P n L r S fc fs)
  | .if_icmp .lt _ => popI st fun y r => popI r fun x r => (x < y → P t L r S fc fs) ∧ (¬ x < y → P n L r S fc fs)
  | .if_icmp .ge _ => popI st fun y r => popI r fun x r => (y ≤ x → P t L r S fc fs) ∧ (¬ y ≤ x → P n L r S fc fs)
  | .if_icmp .gt _ => popI st fun y r => popI r fun x r => (y < x → P t L r S fc fs) ∧ (¬ y < x → P n L r S fc fs)
  | .if_icmp .le _ => popI st fun y r => popI r fun x r => (x ≤ y → P t L r S fc fs) ∧ (¬ x ≤ y → P n L r S fc fs)
  | .goto _ => P t L st S fc fs
  | .ifnonnull _ => (match st with
    | Sum.inr (Sum.inr none) :: r => P n L r S fc fs
    | Sum.inr (Sum.inr (some _)) :: r => P t L r S fc fs
    | _ => False)
  | .tableswitch _ _ _ _ => popI st fun x r => swP x (fun d => P d L r S fc fs) sw t
  | .lookupswitch _ _ => popI st fun x r => swP x (fun d => P d L r S fc fs) sw t
  | .getfield ix => (match fld Y.1.2.1 ix with
    | none => False
    | some (ci, k, ty, _) => popR st fun j g r => cond (Nat.beq (clsP j) ci) (match ty with
      | 1 => P n L (aL S.2.1 :: r) S fc fs
      | 2 => S.2.2.1 j g k = true ∧ P n L (Sum.inr (Sum.inr (some (frf j g k))) :: r) S fc fs
      | _ => P n L (aI (S.1 j g k) :: r) S fc fs) False)
  | .putfield ix => (match fld Y.1.2.1 ix with
    | none => False
    | some (ci, k, ty, _) => few fc (match ty with
      | 1 => False
      | 2 => popR st fun a b r => popR r fun j g r => cond (Nat.beq (clsP j) ci) (frf j g k = (a, b) ∧ P n L r (nnSet S j g k) fc fs) False
      | 3 => popI st fun x r => popR r fun j g r => cond (Nat.beq (clsP j) ci) ((x = 0 ∨ x = 1) ∧ P n L r (ivSet S j g k x) fc fs) False
      | _ => popI st fun x r => popR r fun j g r => cond (Nat.beq (clsP j) ci) (P n L r (ivSet S j g k x) fc fs) False))
  | .getstatic ix => (match sfl Y.1.2.1 ix with
    | none => False
    | some j => P n L (aR j 0 :: st) S fc fs)
  | .iaload => popI st fun i r => popR r fun j g r => cond (Nat.beq (iak j) 1 || Nat.beq (iak j) 3) (∃ k, chI S j g i k ∧ P n L (aI (S.1 j g k) :: r) S fc fs) False
  | .aaload => popI st fun i r => popR r fun j g r => cond (Nat.ble 1 (rfk j)) (∃ k, chI S j g i k ∧ S.2.2.1 j g k = true ∧ P n L (Sum.inr (Sum.inr (some (erf j k))) :: r) S fc fs) False
  | .iastore => few fc (popI st fun x r => popI r fun i r => popR r fun j g r => cond (Nat.beq (iak j) 1) (∃ k, chI S j g i k ∧ P n L r (ivSet S j g k x) fc fs) False)
  | .aastore => few fc (popR st fun a b r => popI r fun i r => popR r fun j g r => cond (Nat.ble 1 (rfk j)) (∃ k, chI S j g i k ∧ erf j k = (a, b) ∧ P n L r (nnSet S j g k) fc fs) False)
  | .arraylength => popR st fun j g r => cond (Nat.ble 1 (iak j) || Nat.ble 1 (rfk j)) (P n L (aI (nI (aln S.2.2.2.1 j g)) :: r) S fc fs) False
  | .newarray .int => few fc (popI st fun x r => ∃ (j g k : Nat), x = nI k ∧ k ≤ 1000 ∧ idOf S.2.2.2.2 = (j, g) ∧ g ≤ 100 ∧ iak j = 1 ∧ (j = 31 ∨ aln S.2.2.2.1 j g = k) ∧ fc + 1 ≤ Y.1.2.2.1 ∧ fs + k ≤ Y.1.2.2.2.1 ∧ P n L (aR j g :: r) (mkC S j g k) (fc + 1) (fs + k))
  | .anewarray ix => (match clk Y.1.2.1 ix with
    | none => False
    | some ci => few fc <| popI st fun x r => ∃ (j g k : Nat), x = nI k ∧ k ≤ 1000 ∧ idOf S.2.2.2.2 = (j, g) ∧ ((rfk j = 1 ∧ ci = 0) ∨ (rfk j = 2 ∧ ci = 3) ∨ (rfk j = 3 ∧ ci = 4)) ∧ aln S.2.2.2.1 j g = k ∧ fc + 1 ≤ Y.1.2.2.1 ∧ fs + k ≤ Y.1.2.2.2.1 ∧ P n L (aR j g :: r) (mkC S j g k) (fc + 1) (fs + k))
  | .new ix => (match clk Y.1.2.1 ix with
    | none => False
    | some ci => (match nth vwCl ci with
      | none => False
      | some q => few fc <| ∃ (j g : Nat), idOf S.2.2.2.2 = (j, g) ∧ clsP j = ci ∧ fc + 1 ≤ Y.1.2.2.1 ∧ fs + q.2.2 ≤ Y.1.2.2.2.1 ∧ (ci = 6 → S.2.1 = 0) ∧ P n L (aR j g :: st) (mkC S j g 0) (fc + 1) (fs + q.2.2)))
  | .invokevirtual ix => (match lnk Y.1.2.1 ix with
    | none => False
    | some (kd, Z, na) => (match kd with
      | 0 => cond (rcv Z (popN (na + 1) st [])) (goC Y call P n L S fc fs Z (popN (na + 1) st [])) False
      | _ => False))
  | .invokestatic ix => (match lnk Y.1.2.1 ix with
    | none => False
    | some (kd, Z, na) => (match kd with
      | 1 => goC Y call P n L S fc fs Z (popN na st [])
      | 11 => goC Y call P n L S fc fs Z (popN na st [])
      | 4 => popI st fun y r => popI r fun x r => cond (Nat.ble (catS r) 8) (P n L (aI (if y < x then y else x) :: r) S fc fs) False
      | 5 => popI st fun y r => popI r fun x r => cond (Nat.ble (catS r) 8) (P n L (aI (if x < y then y else x) :: r) S fc fs) False
      | 6 => few fc <| popI st fun z r => popI r fun dp r => popR r fun a b r => popI r fun sp r => popR r fun j g r => cond (Nat.beq (iak a) 1 && Nat.beq (iak j) 1 && Nat.ble (catS r) 8) (∃ (ks kd kn : Nat), sp = nI ks ∧ dp = nI kd ∧ z = nI kn ∧ ks + kn ≤ aln S.2.2.2.1 j g ∧ kd + kn ≤ aln S.2.2.2.1 a b ∧ kn ≤ 1000 ∧ P n L r ((fun x y k => if x = a ∧ y = b ∧ kd ≤ k ∧ k < kd + kn then S.1 j g (ks + (k - kd)) else S.1 x y k), S.2) fc fs) False
      | _ => False))
  | .invokespecial ix => (match lnk Y.1.2.1 ix with
    | none => False
    | some (kd, Z, na) => (match kd with
      | 2 => cond (rcv Z (popN (na + 1) st [])) (goC Y call P n L S fc fs Z (popN (na + 1) st [])) False
      | 12 => cond (rcv Z (popN (na + 1) st [])) (goC Y call P n L S fc fs Z (popN (na + 1) st [])) False
      | 3 => popR st fun _ _ r => cond (Nat.ble (catS r) 8) (P n L r S fc fs) False
      | _ => False))
  | .ireturn => (match st with
    | [Sum.inl x] => (match Y.1.2.2.2.2 with
      | 1 => K (some (aI x)) S
      | 4 => (x = 0 ∨ x = 1) ∧ K (some (aI x)) S
      | _ => False)
    | _ => False)
  | .lreturn => (match st with
    | [Sum.inr (Sum.inl x)] => (match Y.1.2.2.2.2 with
      | 2 => K (some (aL x)) S
      | _ => False)
    | _ => False)
  | .areturn => (match st with
    | [Sum.inr (Sum.inr q)] => (match Y.1.2.2.2.2 with
      | 3 => K (some (Sum.inr (Sum.inr q))) S
      | _ => False)
    | _ => False)
  | .return_ => (match st with
    | [] => (match Y.1.2.2.2.2 with
      | 0 => K none S
      | _ => False)
    | _ => False)
  | _ => False
def F (Y : MT) (call : CT) (K : KT) (P : PT) (pc : Nat) (L : List (Option AV)) (st : List AV) (S : St) (fc fs : Nat) : Prop := match codeAt Y pc with
  | none => False
  | some (i, n, t, c, sw) => G Y call K P i n t c sw L st S fc fs
/-- the least P that the instructions allow -/
def WP (Y : MT) (call : CT) (K : KT) (pc : Nat) (L : List (Option AV)) (st : List AV) (S : St) (fc fs : Nat) : Prop :=
  ∀ P : PT, (∀ pc L st S fc fs, F Y call K P pc L st S fc fs → P pc L st S fc fs) → P pc L st S fc fs
def Call : Nat → CT
  | 0, _, _, _, _ => False
  | d + 1, Y, as, S, K => WP Y (Call d) K 0 (mkL Y.2.2.2.1 as) [] S 0 0
theorem Call.mk {d : Nat} {Y : MT} {as : List AV} {S : St} {K : KT} (h : WP Y (Call d) K 0 (mkL Y.2.2.2.1 as) [] S 0 0) : Call (d + 1) Y as S K := h
theorem Call.of {d k : Nat} {Y : MT} {as : List AV} {S : St} {K : KT} (hd : k + 1 ≤ d) (h : ∀ e, k ≤ e → ∀ P : PT, (∀ pc L st S fc fs, F Y (Call e) K P pc L st S fc fs → P pc L st S fc fs) → P 0 (mkL Y.2.2.2.1 as) [] S 0 0) : Call d Y as S K := by
  cases d with
  | zero => omega
  | succ e => exact h e (by omega)
