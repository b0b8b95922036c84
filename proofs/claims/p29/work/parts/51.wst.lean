/-! THE START; turn upon turn -/
theorem start_ok {s : State} {b L : Nat} {xs : Nat → Int32} (hL : L ≤ 260) (hts : ∀ w ∈ lw_tbl, w.before #[Value.ref b] s = true) (hX : va_X b L xs s s.heap) (hbl : b < s.heap.size) (hgv : (Jvm.Cond.and given_1 narrow_1).before #[Value.ref b] s = true) : ∃ (D : va_G) (arr : Nat → ClassId) (t : Nat → Nat), ∀ base, s.heap.size ≤ base → Stt (D, arr, base, sad b t, scn xs, L) (fun _ => True) s := by
  have hA : ∀ a : Nat, a < s.heap.size → ¬ (fun q : Nat => s.heap.size ≤ q) a := fun a h q => absurd h (Nat.not_lt.mpr q)
  have hf : ∀ w ∈ FLT, w.before #[Value.ref b] s = true := flat_of_before _ hgv
  obtain ⟨c0, i0, h0⟩ := u_known (C := RX0) (T := TX0) (N := 13) (n := 13) hts (fun w h => (uW_0 w h).1) (hts _ hw_in_0)
  obtain ⟨c1, i1, h1⟩ := u_known (C := RX1) (T := TX1) (N := 10) (n := 10) hts (fun w h => (uW_1 w h).1) (hts _ hw_in_1)
  obtain ⟨c2, i2, h2⟩ := u_known (C := RX2) (T := TX2) (N := 4) (n := 4) hts (fun w h => (uW_2 w h).1) (hts _ hw_in_2)
  obtain ⟨c3, i3, h3⟩ := u_known (C := RX3) (T := TX3) (N := 3) (n := 3) hts (fun w h => (uW_3 w h).1) (hts _ hw_in_3)
  obtain ⟨c4, i4, h4⟩ := u_known (C := RX4) (T := TX4) (N := 2) (n := 2) hts (fun w h => (uW_4 w h).1) (hts _ hw_in_4)
  obtain ⟨c5, i5, h5⟩ := u_known (C := RX5) (T := TX5) (N := 8) (n := 8) hts (fun w h => (uW_5 w h).1) (hts _ hw_in_5)
  obtain ⟨a0, r0⟩ := arrI (Or.inl rfl) (hts _ hw_ai)
  obtain ⟨a1, r1⟩ := arrO (hts _ hw_ao_0)
  obtain ⟨a2, r2⟩ := arrO (hts _ hw_ao_3)
  obtain ⟨a3, r3⟩ := arrO (hts _ hw_ao_4)
  obtain ⟨t0, z0, T0⟩ := st_one (n := "LESSER") (N := 10) (f := fun j => nI (prA j)) (by omega) (hts _ hw_ls_LESSER) (hts _ hw_n_X5) (hf _ (fl_len _ (by simp))) (hf _ (fl_len _ (by simp))) (fun j hj => hf _ (fl_61 j hj)) hA
  obtain ⟨t1, z1, T1⟩ := st_one (n := "GREATER") (N := 10) (f := fun j => nI (prB j)) (by omega) (hts _ hw_ls_GREATER) (hts _ hw_n_X5) (hf _ (fl_len _ (by simp))) (hf _ (fl_len _ (by simp))) (fun j hj => hf _ (fl_62 j hj)) hA
  obtain ⟨t2, z2, T2⟩ := st_one (n := "SETS") (N := 26) (f := fun j => nI (setN j)) (by omega) (hts _ hw_ls_SETS) (hts _ hw_n_X5) (hf _ (fl_len _ (by simp))) (hf _ (fl_len _ (by simp))) (fun j hj => hf _ (fl_63 j hj)) hA
  obtain ⟨t3, z3, T3⟩ := st_one (n := "GREATEST") (N := 5) (f := fun j => nI (grN j)) (by omega) (hts _ hw_ls_GREATEST) (hts _ hw_n_X5) (hf _ (fl_len _ (by simp))) (hf _ (fl_len _ (by simp))) (fun j hj => hf _ (fl_64 j hj)) hA
  refine ⟨(fun k => match k with | 0 => c0 | 1 => c1 | 2 => c2 | 3 => c3 | 4 => c4 | _ => c5, fun k => match k with | 0 => i0 | 1 => i1 | 2 => i2 | 3 => i3 | 4 => i4 | _ => i5), fun k => match k with | 0 => a0 | 1 => a1 | 2 => a2 | _ => a3, fun j => match j with | 61 => t0 | 62 => t1 | 63 => t2 | _ => t3, fun base hbase => ?_⟩
  have hmo : ∀ a : Nat, ¬ (fun q : Nat => s.heap.size ≤ q) a → ¬ (fun q : Nat => base ≤ q) a := fun a h q => h (Nat.le_trans hbase q)
  refine ⟨⟨fun k q hq => ?_, fun k q hq => ?_⟩, fun j j1 j2 => ?_, fun j j1 j2 => ?_, va_Nw.of rfl (hts _ hw_fn1), va_Nw.of rfl (hts _ hw_fn2), va_Nw.of rfl (hts _ hw_fn3), va_Nw.of rfl (hts _ hw_mn1), va_Nw.of rfl (hts _ hw_mn2), va_Nw.of rfl (hts _ hw_mn3), trivial, va_AO.of (hts _ hw_ao_0), va_AO.of (hts _ hw_ao_3), va_AO.of (hts _ hw_ao_4), trivial, (by show L ≤ 4000; omega), trivial⟩
  · match k, hq with
    | 0, hq => cases hq; exact h0
    | 1, hq => cases hq; exact h1
    | 2, hq => cases hq; exact h2
    | 3, hq => cases hq; exact h3
    | 4, hq => cases hq; exact h4
    | 5, hq => cases hq; exact h5
    | k + 6, hq => simp [vwCl] at hq
  · match k, hq with
    | 0, hq => cases hq; exact r0
    | 1, hq => cases hq; exact r1
    | 2, hq => cases hq; exact r2
    | 3, hq => cases hq; exact r3
    | k + 4, hq => simp [tysE] at hq
  · rcases (show j = 61 ∨ j = 62 ∨ j = 63 ∨ j = 64 by omega) with rfl | rfl | rfl | rfl
    · exact va_Zmo z0 hmo
    · exact va_Zmo z1 hmo
    · exact va_Zmo z2 hmo
    · exact va_Zmo z3 hmo
  · rcases (show j = 60 ∨ j = 61 ∨ j = 62 ∨ j = 63 ∨ j = 64 by omega) with rfl | rfl | rfl | rfl | rfl
    · obtain ⟨scr, x1, x2, x3, x4, x5⟩ := hX
      exact ⟨scr, x1, x2, x3, by rw [x4]; exact Nat.le_refl L, by rw [x4]; rfl, x5, hmo b (hA b hbl)⟩
    · exact va_Tmo T0 hmo
    · exact va_Tmo T1 hmo
    · exact va_Tmo T2 hmo
    · exact va_Tmo T3 hmo
/-- the law's locals as a turn begins -/
def L0 (t : Nat) : List (Option AV) := [some (aR 60 0), some (aI (nI t)), none, none, none, none, none, none, none, none, none, none]
/-- from the entry to the first turn -/
theorem lw_head {e : Nat} {P : PT} {K : KT} {fc fs : Nat} {S : St} (hP : ∀ pc L st S fc fs, F m_L_law (Call e) K P pc L st S fc fs → P pc L st S fc fs) (h : P 4 (L0 0) [aI 3, aI (nI 0)] S fc fs) : P 0 (mkL 12 [aR 60 0]) [] S fc fs := by
  have hN : True := trivial
  repeat (first | (refine hP _ _ _ _ _ _ ?_; show P _ _ _ _ _ _) | refine hP _ _ _ _ _ _ (And.intro (hN _ _ _ rfl) ?_))
  exact h
/-- behind the last -/
theorem lw_tail {e : Nat} {P : PT} {K : KT} {fc fs : Nat} {S : St} (hP : ∀ pc L st S fc fs, F m_L_law (Call e) K P pc L st S fc fs → P pc L st S fc fs) (h : K (some (aI 1)) S) : P 4 (L0 3) [aI 3, aI (nI 3)] S fc fs := by
  have hN : True := trivial
  refine hP _ _ _ _ _ _ (And.intro (fun _ => ?_) (fun hc => absurd (nI_le (a := 3) (b := 3) (by omega) (by decide)) hc))
  repeat (first | (refine hP _ _ _ _ _ _ ?_; show P _ _ _ _ _ _) | refine hP _ _ _ _ _ _ (And.intro (hN _ _ _ rfl) ?_))
  refine hP _ _ _ _ _ _ (And.intro (Or.inr rfl) h)
/-- the cells from another place on -/
def reb (E : Env0) (b : Nat) : Env0 := (E.1, E.2.1, b, E.2.2.2)
theorem rep_0 {E : Env0} {H : Heap} {xs : Nat → Int32} {L : Nat} (hL : L ≤ 260) (h1 : H.size = E.2.2.1) (h2 : E.2.2.2.2.2 = L) (h4 : ∀ j k, E.2.2.2.2.1 j k = scn xs j k) : Rep E (S00 xs L) H := by
  have none0 : ∀ j g, lvP (S00 xs L) j g → j < 60 → False := fun j g h hj => absurd (lvP.in h hj).1 (Nat.not_lt_zero _)
  refine ⟨by rw [h1]; rfl, fun k q h => by simp [wld, S00] at h, fun j hj k => ?_, by rw [h2]; rfl, fun t => ?_, fun j g k h hj => (none0 j g h hj).elim, fun j g k h hj => (none0 j g h hj).elim⟩
  · rw [h4]
    show (if 60 ≤ j ∧ 0 = 0 then scn xs j k else 0) = _
    rw [if_pos ⟨hj, rfl⟩]
  · show (if t = 1000 then L else 0) ≤ 4000
    split <;> omega
theorem next_turn {E : Env0} {p : Program} {l : Launch} {e : Env} {R : Room} {s : State} {m : MethodId} {args : Array Value} {below : List Frame} {meth : Method} {c : Code} {Q : State → Prop} {xs : Nat → Int32} {L t fc fs : Nat} {S : St} {Lx : List (Option AV)} (hL : L ≤ 260) (hb : s.heap.size ≤ E.2.2.1) (e2 : E.2.2.2.2.2 = L) (e4 : ∀ j k, E.2.2.2.2.1 j k = scn xs j k) (hfc : fc < 1000) (hx0 : nth Lx 0 = some (some (aR 60 0))) (hx1 : nth Lx 1 = some (some (aI (nI t)))) (hx2 : Lx.length = 12)
    (h : ∀ b, s.heap.size ≤ b → PS (reb E b) m_L_law 0 p l e R s m args below meth c Q 4 (L0 t) [aI 3, aI (nI t)] (S00 xs L) fc fs) : PS E m_L_law 0 p l e R s m args below meth c Q 4 Lx [aI 3, aI (nI t)] S fc fs := by
  intro H locs ls h1 h2 h3 h4 h5 h6 h7 h8 h9
  have hle : E.2.2.1 ≤ H.size := by rw [h1.1]; exact Nat.le_add_right _ _
  refine va_forget (fun q hq => Nat.le_trans hb (h5.2.2 q hq)) ?_
  have l0 := h2.at hx0
  have l1 := h2.at hx1
  have hl : LokL (reb E H.size) ls m_L_law.2.2.2.1 (L0 t) := by
    refine ⟨⟨h2.1.1, h2.1.2.1, fun q hq => ?_⟩, rfl⟩
    have hq : q ∈ [(0, cv (reb E H.size) (aR 60 0)), (1, cv (reb E H.size) (aI (nI t)))] := hq
    simp only [List.mem_cons, List.not_mem_nil, or_false] at hq
    rcases hq with rfl | rfl
    · exact l0
    · exact l1
  refine h H.size (Nat.le_trans hb hle) H [] ls (rep_0 hL rfl e2 e4) hl (fun k v hk => ?_) (fun v hv => ?_) ⟨h5.1, fun q a _ => h5.2.1 q a (fun z => absurd a (Nat.not_lt.mpr (Nat.le_trans hb z))), fun q hq => by cases hq⟩ (Nat.zero_le _) h7 h8 (fun _ => ?_)
  · match k, hk with
    | 0, hk =>
      simp only [L0, nth, Option.some.injEq] at hk
      rw [← hk]
      exact Or.inr (Or.inl ⟨by omega, by omega, rfl⟩)
    | 1, hk =>
      simp only [L0, nth, Option.some.injEq] at hk
      rw [← hk]
      trivial
    | 2, hk | 3, hk | 4, hk | 5, hk | 6, hk | 7, hk | 8, hk | 9, hk | 10, hk | 11, hk => simp [L0, nth] at hk
    | k + 12, hk => simp [L0, nth] at hk
  · simp only [List.mem_cons, List.not_mem_nil, or_false] at hv
    rcases hv with rfl | rfl <;> trivial
  · have h9 := h9 hfc
    have h1 := h1.1
    show H.size + 0 = s.heap.size + fc
    omega
theorem whole_start {p : Program} {e : Env} {s : State} {m : MethodId} {below : List Frame} {meth : Method} {c : Code} (l : Launch) (hflags : l.flags = flags0) {b L : Nat} {xs : Nat → Int32} (hL : L ≤ 260) (C0 : lw_At p s m meth c b L xs) : W p l e room_1 s m #[Value.ref b] below meth c s.heap [] 0 0 (lw_Z below #[Value.ref b] s) (entryFrame m ([Value.ref b] : List Value).toArray 12) := by
  obtain ⟨hx, hb, hr, hml, hown, hts, hX, hbl, hlocks, hgv⟩ := id C0
  obtain ⟨D, arr, t, hSt⟩ := start_ok hL hts hX hbl hgv
  obtain ⟨E, hE⟩ : ∃ E : Env0, E = (D, arr, s.heap.size, sad b t, scn xs, L) := ⟨_, rfl⟩
  have E1 : E.2.2.1 = s.heap.size := by rw [hE]
  have E2 : E.2.2.2.2.2 = L := by rw [hE]
  have E3 : E.2.2.2.1 60 0 = b := by rw [hE]; rfl
  have E4 : ∀ j k, E.2.2.2.2.1 j k = scn xs j k := fun j k => by rw [hE]
  have hSt : ∀ base, s.heap.size ≤ base → Stt (reb E base) (fun _ => True) s := fun base h => by rw [hE]; exact hSt base h
  have hw : ∀ w ∈ ALLW, w.before #[Value.ref b] s = true := fun w h => hts w (List.mem_filter.mp h).1
  have C : ∀ base, s.heap.size ≤ base → Ctx (reb E base) (fun _ => True) m_L_law 400 p room_1 s m #[Value.ref b] meth c := fun base h => ⟨hx, hb, hml, hown, hw, ck_L_law, hSt base h, (by show 400 + 9 ≤ 2048; omega), (by show 64 * 400 + 664 ≤ 84000; omega), (by show 600000 ≤ 600000; omega), (by show 7302250 ≤ 7302250; omega), fun z => absurd z (by decide)⟩
  have hHR : ∀ base, s.heap.size ≤ base → HRet (reb E base) m_L_law 0 p l e room_1 s m #[Value.ref b] below meth c (lw_Z below #[Value.ref b] s) (fun v _ => v = some (aI 1)) := by
    intro base hbase pc fc fs S H locs ls i v hd hri hK hR' hlv hS hn hfc hfs
    subst hK
    have hi : i = .ireturn := by
      rcases hri with ⟨h, -⟩ | ⟨-, h, -⟩ | ⟨-, h, -⟩ | ⟨-, h, -⟩
      · exact h
      · exact absurd h (by decide)
      · exact absurd h (by decide)
      · exact absurd h (by decide)
    subst hi
    exact va_forget (fun q hq => Nat.le_trans hbase (hS.2.2 q hq)) (W.widen hfc hfs (lw_ret hx hb hr hlocks hd))
  have hXok : ∀ base, Xok (reb E base) (fun _ => True) := fun _ _ _ _ _ _ _ => trivial
  have hst := fun base (h : s.heap.size ≤ base) => step (n0 := 0) (below := below) (l := l) (e := e) (call := Call 400) (K := fun v _ => v = some (aI 1)) (C base h) (hXok base) (hHR base h) (fun {S} Z as K' h1 h2 h3 h4 => sound (hXok base) 400 Z as K' h1 h2 h3 h4)
  have turns : ∀ t, t ≤ 3 → ∀ base, s.heap.size ≤ base → PS (reb E base) m_L_law 0 p l e room_1 s m #[Value.ref b] below meth c (lw_Z below #[Value.ref b] s) 4 (L0 t) [aI 3, aI (nI t)] (S00 xs L) (58 * t) (1074 * t) := by
    refine dn ?_ ?_
    · intro base hbase
      exact lw_tail (hst base hbase) rfl
    · intro t ht ih base hbase
      refine lw_turn (L := L) (e := 400) (by omega) (hst base hbase) (fun pc ll st S fc fs h H locs ls h1 => h (h1.2.2.2.1.trans E2) H locs ls h1) hL ht (by rw [Nat.blt_eq]; omega) (by omega) (by omega) rfl (fun j g k hj => ?_) (fun _ _ _ => rfl) ⟨fun k _ => ⟨rfl, rfl⟩, fun k _ => rfl, fun k _ => rfl, fun k _ => rfl⟩ (fun S' Lx x0 x1 x2 => ?_)
      · show (if 60 ≤ j ∧ g = 0 then scn xs j k else 0) = 0
        rw [if_neg (by omega)]
      · exact next_turn (E := reb E base) hL hbase E2 E4 (by omega) x0 x1 x2 (fun b' hb' => ih b' hb')
  have hps := lw_head (hst s.heap.size (Nat.le_refl _)) (turns 0 (Nat.zero_le _) s.heap.size (Nat.le_refl _))
  have hmap : ([aR 60 0] : List AV).map (cv (reb E s.heap.size)) = [Value.ref b] := by
    show [Value.ref (adr (reb E s.heap.size) 60 0)] = _
    unfold adr
    rw [if_neg (by omega)]
    exact congrArg (fun x => [Value.ref x]) E3
  have hR : Rep (reb E s.heap.size) (S00 xs L) s.heap := rep_0 hL rfl E2 E4
  rw [lg_entry_eq]
  have hl := lv_entry ([Value.ref b]) (n := 12) (Nat.le_of_ble_eq_true rfl)
  exact hps s.heap [] _ hR ⟨⟨hl.1, hl.2.1, fun q hq => hl.2.2 q (by have := lvl_mkL (E := reb E s.heap.size) 12 [aR 60 0] 0 q hq; rw [hmap] at this; exact this)⟩, mkL_len _ _⟩ (fun k v hk => by
    have := mkL_in 12 [aR 60 0] k v hk
    rw [List.mem_singleton] at this
    rw [this]
    exact Or.inr (Or.inl ⟨by omega, by omega, rfl⟩)) (fun v hv => absurd hv List.not_mem_nil) va_S.rf (Nat.zero_le _) (Nat.zero_le _) (Nat.zero_le _) (fun _ => by show s.heap.size + 0 = s.heap.size + 0; rfl)
