/-! THE MACHINE AM: the bytecode over a state whose cells have fixed names (part, group): 'F' says what one instruction asks of the next place 'P'; 'WP' is the least such 'P'; 'Call' is a method's run at a depth. -/
abbrev AV : Type := Int32 ⊕ (Int64 ⊕ Option (Nat × Nat))
abbrev aI (x : Int32) : AV := Sum.inl x
abbrev aL (x : Int64) : AV := Sum.inr (Sum.inl x)
abbrev aN : AV := Sum.inr (Sum.inr none)
abbrev aR (j g : Nat) : AV := Sum.inr (Sum.inr (some (j, g)))
/-- the ints (part, group, slot), the one long, which references are set, lengths that vary, how many cells there are -/
abbrev St : Type := (Nat → Nat → Nat → Int32) × Int64 × (Nat → Nat → Nat → Bool) × (Nat → Nat) × Nat
def up3 {α : Type} (f : Nat → Nat → Nat → α) (j g k : Nat) (v : α) : Nat → Nat → Nat → α := fun a b c => if a = j ∧ b = g ∧ c = k then v else f a b c
def zr3 {α : Type} (f : Nat → Nat → Nat → α) (j g : Nat) (v : α) : Nat → Nat → Nat → α := fun a b c => if a = j ∧ b = g then v else f a b c
def upN {α : Type} (f : Nat → α) (k : Nat) (v : α) : Nat → α := fun a => if a = k then v else f a
/-- an instruction, the next place, where it jumps to, its number, its switch -/
abbrev Ent : Type := Instr × Nat × Nat × Int32 × List (Int32 × Nat)
/-- a method: its code in pieces of 16 places, its class's number, cells and slots that it may make, what it answers (0 nothing, 1 int, 2 long, 3 a reference, 4 boolean); its name, bytes, locals, type -/
abbrev MT : Type := (List (List (Option Ent)) × Nat × Nat × Nat × Nat) × (MethodName × ByteArray × Nat × Option FieldType)
def nth {α : Type} : List α → Nat → Option α
  | [], _ => none
  | a :: _, 0 => some a
  | _ :: l, n + 1 => nth l n
def lkp {α : Type} : List (Nat × α) → Nat → Option α
  | [], _ => none
  | a :: l, i => cond (Nat.beq a.1 i) (some a.2) (lkp l i)
def codeAt (Y : MT) (pc : Nat) : Option Ent := match nth Y.1.1 (pc / 16) with
  | none => none
  | some l => match nth l (pc % 16) with
    | none => none
    | some e => e
def isL : Option AV → Bool
  | some (Sum.inr (Sum.inl _)) => true
  | _ => false
/-- a store into the locals -/
def putL : List (Option AV) → Nat → AV → List (Option AV)
  | [], _, _ => []
  | _ :: l, 0, v => match v with
    | Sum.inr (Sum.inl _) => some v :: (match l with
      | [] => []
      | _ :: t => none :: t)
    | _ => some v :: l
  | a :: l, 1, v => (match a with
    | some (Sum.inr (Sum.inl _)) => none
    | _ => a) :: putL l 0 v
  | a :: l, n + 2, v => a :: putL l (n + 1) v
def mkL : Nat → List AV → List (Option AV)
  | 0, _ => []
  | n + 1, [] => none :: mkL n []
  | n + 1, v :: r => match v with
    | Sum.inr (Sum.inl _) => some v :: (match n with
      | 0 => []
      | k + 1 => none :: mkL k r)
    | _ => some v :: mkL n r
def popI (st : List AV) (k : Int32 → List AV → Prop) : Prop := match st with
  | Sum.inl x :: r => k x r
  | _ => False
def popJ (st : List AV) (k : Int64 → List AV → Prop) : Prop := match st with
  | Sum.inr (Sum.inl x) :: r => k x r
  | _ => False
def popR (st : List AV) (k : Nat → Nat → List AV → Prop) : Prop := match st with
  | Sum.inr (Sum.inr (some q)) :: r => k q.1 q.2 r
  | _ => False
def popS (st : List AV) (k : AV → List AV → Prop) : Prop := match st with
  | Sum.inl x :: r => k (Sum.inl x) r
  | Sum.inr (Sum.inr q) :: r => k (Sum.inr (Sum.inr q)) r
  | _ => False
def getI (L : List (Option AV)) (i : Nat) (k : Int32 → Prop) : Prop := match nth L i with
  | some (some (Sum.inl x)) => k x
  | _ => False
def getJ (L : List (Option AV)) (i : Nat) (k : Int64 → Prop) : Prop := match nth L i with
  | some (some (Sum.inr (Sum.inl x))) => k x
  | _ => False
def getA (L : List (Option AV)) (i : Nat) (k : Option (Nat × Nat) → Prop) : Prop := match nth L i with
  | some (some (Sum.inr (Sum.inr x))) => k x
  | _ => False
/-- so many from the top, the lowest first; and the rest -/
def popN : Nat → List AV → List AV → Option (List AV × List AV)
  | 0, st, acc => some (acc, st)
  | n + 1, v :: st, acc => popN n st (v :: acc)
  | _ + 1, [], _ => none
def catS : List AV → Nat
  | [] => 0
  | v :: r => (match v with
    | Sum.inr (Sum.inl _) => 2
    | _ => 1) + catS r
abbrev PT : Type := Nat → List (Option AV) → List AV → St → Nat → Nat → Prop
abbrev KT : Type := Option AV → St → Prop
abbrev CT : Type := MT → List AV → St → KT → Prop
def swP (x : Int32) (P : Nat → Prop) : List (Int32 × Nat) → Nat → Prop
  | [], d => P d
  | a :: l, d => (x = a.1 → P a.2) ∧ (¬ x = a.1 → swP x P l d)
-- the names of the cells
def clsP (j : Nat) : Nat := match j with
  | 0 => 5
  | 1 => 2
  | 7 => 1
  | 10 => 0
  | 20 => 3
  | 30 => 4
  | _ => 9
/-- whom a reference field holds, once it is set -/
def frf (j g k : Nat) : Nat × Nat := match j with
  | 0 => (match k with
    | 0 => (1, 0)
    | 1 => (10, 0)
    | 2 => (10, 1)
    | 3 => (6, 0)
    | 4 => (7, 0)
    | 5 => (18, 0)
    | _ => (19, 0))
  | 1 => (match k with
    | 0 => (3, 0)
    | 2 => (4, 0)
    | _ => (5, 0))
  | 7 => (match k with
    | 0 => (8, 0)
    | 2 => (9, 0)
    | _ => (17, 0))
  | 10 => (match k with
    | 0 => (1, 0)
    | 5 => (11, g)
    | 6 => (12, g)
    | 7 => (13, g)
    | 8 => (14, g)
    | 11 => (15, g)
    | _ => (16, g))
  | 20 => (21, g)
  | 30 => (match k with
    | 0 => (31, g)
    | _ => (32, g))
  | 40 => (match k with
    | 1 => (41, 0)
    | 2 => (42, 0)
    | 5 => (43, 0)
    | 9 => (44, 0)
    | 10 => (45, 0)
    | 11 => (46, 0)
    | 13 => (47, 0)
    | 30 => (48, 0)
    | 31 => (49, 0)
    | 32 => (50, 0)
    | 33 => (51, 0)
    | 34 => (52, 0)
    | 35 => (53, 0)
    | 36 => (54, 0)
    | 41 => (55, 0)
    | 42 => (56, 0)
    | 43 => (57, 0)
    | _ => (58, 0))
  | _ => (99, 0)
/-- an array of references: which class's (1 Floor, 2 Sheet, 3 Text), and whom its place k holds once it is set -/
def rfk (j : Nat) : Nat := match j with
  | 6 => 1
  | 18 => 2
  | 3 => 3
  | _ => 0
def erf (j k : Nat) : Nat × Nat := match j with
  | 6 => (10, k + 2)
  | 18 => (20, k)
  | 3 => (30, k)
  | _ => (99, 0)
/-- 1: an array of ints; 2: of booleans; 3: a static array of ints, only read -/
def iak (j : Nat) : Nat := match j with
  | 4 => 1 | 5 => 1 | 8 => 1 | 9 => 1 | 11 => 1 | 12 => 1 | 13 => 1 | 14 => 1 | 15 => 1 | 16 => 1 | 17 => 1 | 19 => 1 | 21 => 1 | 31 => 1 | 32 => 1
  | 60 => 3 | 61 => 3 | 62 => 3 | 63 => 3 | 64 => 3
  | _ => 0
/-- the lengths -/
def aln (tl : Nat → Nat) (j g : Nat) : Nat := match j with
  | 3 => 6 | 4 => 6 | 5 => 160 | 6 => 3 | 8 => 160 | 9 => 160
  | 11 => 5 | 12 => 5 | 13 => 5 | 14 => 25 | 15 => 10 | 16 => 10 | 17 => 3
  | 18 => 4 | 19 => 5 | 21 => 40 | 31 => tl g | 32 => 3
  | 41 => 960 | 42 => 6 | 43 => 160 | 44 => 5 | 45 => 10 | 46 => 25 | 47 => 26 | 48 => 5 | 49 => 37 | 50 => 100 | 51 => 40 | 52 => 25 | 53 => 25 | 54 => 10 | 55 => 4 | 56 => 4 | 57 => 4 | 58 => 160
  | 60 => tl 1000 | 61 => 10 | 62 => 10 | 63 => 26 | 64 => 5
  | _ => 0
/-- the cells in the order in which they are made -/
def idsT : List (Nat × Nat) := [(0, 0), (1, 0), (3, 0), (4, 0), (5, 0), (31, 0), (32, 0), (30, 0),
  (10, 0), (11, 0), (12, 0), (13, 0), (14, 0), (15, 0), (16, 0), (10, 1), (11, 1), (12, 1), (13, 1), (14, 1), (15, 1), (16, 1), (6, 0),
  (10, 2), (11, 2), (12, 2), (13, 2), (14, 2), (15, 2), (16, 2), (10, 3), (11, 3), (12, 3), (13, 3), (14, 3), (15, 3), (16, 3), (10, 4), (11, 4), (12, 4), (13, 4), (14, 4), (15, 4), (16, 4),
  (7, 0), (8, 0), (9, 0), (17, 0), (18, 0), (20, 0), (21, 0), (20, 1), (21, 1), (20, 2), (21, 2), (20, 3), (21, 3), (19, 0), (40, 0),
  (41, 0), (42, 0), (43, 0), (44, 0), (45, 0), (46, 0), (47, 0), (48, 0), (49, 0), (50, 0), (51, 0), (52, 0), (53, 0), (54, 0), (55, 0), (56, 0), (57, 0), (58, 0)]
def idOf (n : Nat) : Nat × Nat := match nth idsT n with
  | some q => q
  | none => (if (n - 77) % 3 = 0 then 31 else if (n - 77) % 3 = 1 then 30 else 32, (n - 77) / 3 + 1)
def numP (j g : Nat) : Nat := match j with
  | 0 => 0 | 1 => 1 | 3 => 2 | 4 => 3 | 5 => 4
  | 31 => if g = 0 then 5 else 77 + 3 * (g - 1)
  | 32 => if g = 0 then 6 else 77 + 3 * (g - 1) + 2
  | 30 => if g = 0 then 7 else 77 + 3 * (g - 1) + 1
  | 10 => if g < 2 then 8 + 7 * g else 9 + 7 * g
  | 11 => if g < 2 then 9 + 7 * g else 10 + 7 * g
  | 12 => if g < 2 then 10 + 7 * g else 11 + 7 * g
  | 13 => if g < 2 then 11 + 7 * g else 12 + 7 * g
  | 14 => if g < 2 then 12 + 7 * g else 13 + 7 * g
  | 15 => if g < 2 then 13 + 7 * g else 14 + 7 * g
  | 16 => if g < 2 then 14 + 7 * g else 15 + 7 * g
  | 6 => 22 | 7 => 44 | 8 => 45 | 9 => 46 | 17 => 47 | 18 => 48
  | 20 => 49 + 2 * g
  | 21 => 50 + 2 * g
  | 19 => 57
  | n => n + 18
