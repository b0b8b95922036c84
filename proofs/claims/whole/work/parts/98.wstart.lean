/-! THE START, and the claim's walk -/
theorem start_ok {s : State} {b L : Nat} {xs : Nat → Int32} (hL : L ≤ 3072) (hts : ∀ w ∈ lw_tbl, w.before #[Value.ref b] s = true) (hX : va_X b L xs s s.heap) (hbl : b < s.heap.size) (hgv : (Jvm.Cond.and given_1 narrow_1).before #[Value.ref b] s = true) : ∃ (D : va_G) (arr : Nat → ClassId) (t adK adV : Nat → Nat), Stt (D, arr, s.heap.size, sad b t adK, scn xs, L) (XJ (D, arr, s.heap.size, sad b t adK, scn xs, L) adV) s := by
  have hA : ∀ a : Nat, a < s.heap.size → ¬ (fun q : Nat => s.heap.size ≤ q) a := fun a h q => absurd h (Nat.not_lt.mpr q)
  have hf : ∀ w ∈ FLT, w.before #[Value.ref b] s = true := flat_of_before _ hgv
  obtain ⟨c0, i0, h0⟩ := u_known (C := RX0) (T := TX0) (N := 13) (n := 13) hts (fun w h => (uW_0 w h).1) (hts _ hw_in_0)
  obtain ⟨c1, i1, h1⟩ := u_known (C := RX1) (T := TX1) (N := 10) (n := 10) hts (fun w h => (uW_1 w h).1) (hts _ hw_in_1)
  obtain ⟨c2, i2, h2⟩ := u_known (C := RX2) (T := TX2) (N := 4) (n := 4) hts (fun w h => (uW_2 w h).1) (hts _ hw_in_2)
  obtain ⟨c3, i3, h3⟩ := u_known (C := RX3) (T := TX3) (N := 3) (n := 3) hts (fun w h => (uW_3 w h).1) (hts _ hw_in_3)
  obtain ⟨c4, i4, h4⟩ := u_known (C := RX4) (T := TX4) (N := 2) (n := 2) hts (fun w h => (uW_4 w h).1) (hts _ hw_in_4)
  obtain ⟨c5, i5, h5⟩ := u_known (C := RX5) (T := TX5) (N := 8) (n := 8) hts (fun w h => (uW_5 w h).1) (hts _ hw_in_5)
  obtain ⟨c6, i6, h6⟩ := u_known (C := RX6) (T := TX6) (N := 45) (n := 45) hts (fun w h => (uW_6 w h).1) (hts _ hw_in_6)
  obtain ⟨a0, r0⟩ := arrI (Or.inl rfl) (hts _ hw_ai)
  obtain ⟨a1, r1⟩ := arrO (hts _ hw_ao_0)
  obtain ⟨a2, r2⟩ := arrO (hts _ hw_ao_3)
  obtain ⟨a3, r3⟩ := arrO (hts _ hw_ao_4)
  obtain ⟨a4, r4⟩ := arrI (Or.inr rfl) (hts _ hw_az)
  obtain ⟨t0, z0, T0⟩ := st_one (n := "LESSER") (N := 10) (f := fun j => nI (prA j)) (by omega) (hts _ hw_ls_LESSER) (hts _ hw_n_X5) (hf _ (fl_len _ (by simp))) (hf _ (fl_len _ (by simp))) (fun j hj => hf _ (fl_61 j hj)) hA
  obtain ⟨t1, z1, T1⟩ := st_one (n := "GREATER") (N := 10) (f := fun j => nI (prB j)) (by omega) (hts _ hw_ls_GREATER) (hts _ hw_n_X5) (hf _ (fl_len _ (by simp))) (hf _ (fl_len _ (by simp))) (fun j hj => hf _ (fl_62 j hj)) hA
  obtain ⟨t2, z2, T2⟩ := st_one (n := "SETS") (N := 26) (f := fun j => nI (setN j)) (by omega) (hts _ hw_ls_SETS) (hts _ hw_n_X5) (hf _ (fl_len _ (by simp))) (hf _ (fl_len _ (by simp))) (fun j hj => hf _ (fl_63 j hj)) hA
  obtain ⟨t3, z3, T3⟩ := st_one (n := "GREATEST") (N := 5) (f := fun j => nI (grN j)) (by omega) (hts _ hw_ls_GREATEST) (hts _ hw_n_X5) (hf _ (fl_len _ (by simp))) (hf _ (fl_len _ (by simp))) (fun j hj => hf _ (fl_64 j hj)) hA
  obtain ⟨t4, z4, T4⟩ := st_one (n := "UNDER") (N := 6) (f := unI) (by omega) (hts _ hw_ls_UNDER) (hts _ hw_n_X5) (hf _ (fl_len _ (by simp))) (hf _ (fl_len _ (by simp))) (fun j hj => hf _ (fl_65 j hj)) hA
  obtain ⟨adK, adV, hS, hK⟩ := vk_Sof (N := 13) (tm := tmS) (len := lenJ) (byt := bytJ) lenJ_lt (fun g hg => hf _ (fl_s g hg).1) (fun g hg => hf _ (fl_s g hg).2.1) (fun g hg => hf _ (fl_s g hg).2.2.1) (fun g hg => hf _ (fl_s g hg).2.2.2) (fun g hg j hj => hf _ (fl_b g hg j hj)) (fun g i hg hi hn => (fl_n g i hg hi hn).imp (hf _) (hf _)) hA
  have zc : va_Z RJ0 "COMPACT_STRINGS" "Z" (.int 1) (fun q : Nat => s.heap.size ≤ q) s s.heap := va_Zof (hts _ hw_ls_CS) (hts _ hw_n_J0) (va_eqi (hf _ (fl_len _ (by simp)))) hA
  have zs : va_Zq RJ3 "SIOOBE_FORMATTER" "Ljava/util/function/BiFunction;" (fun q : Nat => s.heap.size ≤ q) s s.heap := va_Zqof (hts _ hw_ls_SI) (hts _ hw_n_J3) (hf _ (fl_len _ (by simp))) hA
  refine ⟨(fun k => match k with | 0 => c0 | 1 => c1 | 2 => c2 | 3 => c3 | 4 => c4 | 5 => c5 | _ => c6, fun k => match k with | 0 => i0 | 1 => i1 | 2 => i2 | 3 => i3 | 4 => i4 | 5 => i5 | _ => i6), fun k => match k with | 0 => a0 | 1 => a1 | 2 => a2 | 3 => a3 | _ => a4, fun j => match j with | 61 => t0 | 62 => t1 | 63 => t2 | 64 => t3 | _ => t4, adK, adV, ?_⟩
  refine ⟨⟨fun k q hq => ?_, fun k q hq => ?_⟩, fun j j1 j2 => ?_, fun j j1 j2 => ?_, va_Nw.of rfl (hts _ hw_fn1), va_Nw.of rfl (hts _ hw_fn2), va_Nw.of rfl (hts _ hw_fn3), va_Nw.of rfl (hts _ hw_mn1), va_Nw.of rfl (hts _ hw_mn2), va_Nw.of rfl (hts _ hw_mn3), va_Nw.of rfl (hts _ hw_cl), va_AO.of (hts _ hw_ao_0), va_AO.of (hts _ hw_ao_3), va_AO.of (hts _ hw_ao_4), Nat.le_refl _, (by show L ≤ 4000; omega), ⟨hS, zc, zs⟩, fun own ix g h => ?_⟩
  · match k, hq with
    | 0, hq => cases hq; exact h0
    | 1, hq => cases hq; exact h1
    | 2, hq => cases hq; exact h2
    | 3, hq => cases hq; exact h3
    | 4, hq => cases hq; exact h4
    | 5, hq => cases hq; exact h5
    | 6, hq => cases hq; exact h6
    | k + 7, hq => simp [vwCl] at hq
  · match k, hq with
    | 0, hq => cases hq; exact r0
    | 1, hq => cases hq; exact r1
    | 2, hq => cases hq; exact r2
    | 3, hq => cases hq; exact r3
    | 4, hq => cases hq; exact r4
    | k + 5, hq => simp [tysE] at hq
  · rcases (show j = 61 ∨ j = 62 ∨ j = 63 ∨ j = 64 ∨ j = 65 by omega) with rfl | rfl | rfl | rfl | rfl
    · exact z0
    · exact z1
    · exact z2
    · exact z3
    · exact z4
  · rcases (show j = 60 ∨ j = 61 ∨ j = 62 ∨ j = 63 ∨ j = 64 ∨ j = 65 by omega) with rfl | rfl | rfl | rfl | rfl | rfl
    · obtain ⟨scr, x1, x2, x3, x4, x5⟩ := hX
      exact ⟨scr, x1, x2, x3, by rw [x4]; exact Nat.le_refl L, by rw [x4]; rfl, x5, hA b hbl⟩
    · exact T0
    · exact T1
    · exact T2
    · exact T3
    · exact T4
  · obtain ⟨rfl, hg, rfl⟩ := stk_of h
    refine ⟨hg, ?_⟩
    have hk := hK g hg
    rcases (show g = 0 ∨ g = 1 ∨ g = 2 ∨ g = 3 ∨ g = 4 ∨ g = 5 ∨ g = 6 ∨ g = 7 ∨ g = 8 ∨ g = 9 ∨ g = 10 ∨ g = 11 ∨ g = 12 by omega) with rfl | rfl | rfl | rfl | rfl | rfl | rfl | rfl | rfl | rfl | rfl | rfl | rfl
    · exact ⟨_, vk_R.of (hts _ hw_sr_0) hk⟩
    · exact ⟨_, vk_R.of (hts _ hw_sr_1) hk⟩
    · exact ⟨_, vk_R.of (hts _ hw_sr_2) hk⟩
    · exact ⟨_, vk_R.of (hts _ hw_sr_3) hk⟩
    · exact ⟨_, vk_R.of (hts _ hw_sr_4) hk⟩
    · exact ⟨_, vk_R.of (hts _ hw_sr_5) hk⟩
    · exact ⟨_, vk_R.of (hts _ hw_sr_6) hk⟩
    · exact ⟨_, vk_R.of (hts _ hw_sr_7) hk⟩
    · exact ⟨_, vk_R.of (hts _ hw_sr_8) hk⟩
    · exact ⟨_, vk_R.of (hts _ hw_sr_9) hk⟩
    · exact ⟨_, vk_R.of (hts _ hw_sr_10) hk⟩
    · exact ⟨_, vk_R.of (hts _ hw_sr_11) hk⟩
    · exact ⟨_, vk_R.of (hts _ hw_sr_12) hk⟩
theorem whole_start {p : Program} {e : Env} {s : State} {m : MethodId} {below : List Frame} {meth : Method} {c : Code} (l : Launch) (hflags : l.flags = flags0) {b L : Nat} {xs : Nat → Int32} (hL : L ≤ 3072) (C0 : lw_At p s m meth c b L xs) : W p l e room_1 s m #[Value.ref b] below meth c s.heap [] 0 0 (lw_Z below #[Value.ref b] s) (entryFrame m ([Value.ref b] : List Value).toArray 4) := by
  obtain ⟨hx, hb, hr, hml, hown, hts, hX, hbl, hlocks, hgv⟩ := id C0
  obtain ⟨D, arr, t, adK, adV, hSt⟩ := start_ok hL hts hX hbl hgv
  obtain ⟨E, hE⟩ : ∃ E : Env0, E = (D, arr, s.heap.size, sad b t adK, scn xs, L) := ⟨_, rfl⟩
  rw [← hE] at hSt
  have E1 : E.2.2.1 = s.heap.size := by rw [hE]
  have E2 : E.2.2.2.2.2 = L := by rw [hE]
  have E3 : E.2.2.2.1 60 0 = b := by rw [hE]; rfl
  have E4 : ∀ j k, E.2.2.2.2.1 j k = scn xs j k := fun j k => by rw [hE]
  have hw : ∀ w ∈ ALLW, w.before #[Value.ref b] s = true := fun w h => hts w (List.mem_filter.mp h).1
  have C : Ctx E (XJ E adV) m_L_law 400 p room_1 s m #[Value.ref b] meth c := ⟨hx, hb, hml, hown, hw, ck_L_law, hSt, (by show 400 + 9 ≤ 2048; omega), (by show 64 * 400 + 664 ≤ 84000; omega), (by show 600000 ≤ 600000; omega), (by show 7302250 ≤ 7302250; omega), fun z => absurd z (by decide)⟩
  have none0 : ∀ j g, lvP (S00 xs L) j g → j < 60 → False := fun j g h hj => absurd (lvP.in h hj).1 (Nat.not_lt_zero _)
  have hR : Rep E (S00 xs L) s.heap := by
    refine ⟨by rw [E1]; rfl, fun k q h => by simp [wld, S00] at h, fun j hj k => ?_, by rw [E2]; rfl, fun t => ?_, fun j g k h hj => (none0 j g h hj).elim, fun j g k h hj => (none0 j g h hj).elim⟩
    · rw [E4]
      show (if 60 ≤ j ∧ 0 = 0 then scn xs j k else 0) = _
      rw [if_pos ⟨hj, rfl⟩]
    · show (if t = 1000 then L else 0) ≤ 4000
      split <;> omega
  have hHR : HRet E m_L_law 0 p l e room_1 s m #[Value.ref b] below meth c (lw_Z below #[Value.ref b] s) (fun v _ => v = some (aI 1)) := by
    intro pc fc fs S H locs ls i v hd hri hK hR' hlv hS hn hfc hfs
    subst hK
    have hi : i = .ireturn := by
      rcases hri with ⟨h, -⟩ | ⟨-, h, -⟩ | ⟨-, h, -⟩ | ⟨-, h, -⟩
      · exact h
      · exact absurd h (by decide)
      · exact absurd h (by decide)
      · exact absurd h (by decide)
    subst hi
    exact va_forget (fun q hq => by
      have := hS.2.2 q hq
      rw [← E1]
      exact this) (W.widen hfc hfs (lw_ret hx hb hr hlocks hd))
  have hst := step (n0 := 0) (below := below) (l := l) (e := e) (call := Call 400) (K := fun v _ => v = some (aI 1)) C XJ_ok txt_ok ldc_ok hHR (fun {S} Z as K' h1 h2 h3 h4 => sound XJ_ok txt_ok ldc_ok 400 Z as K' h1 h2 h3 h4)
  have hps : PS E m_L_law 0 p l e room_1 s m #[Value.ref b] below meth c (lw_Z below #[Value.ref b] s) 0 (mkL 4 [aR 60 0]) [] (S00 xs L) 0 0 :=
    lw_all (xs := xs) (L := L) (by omega) hL hst (fun pc ll st S fc fs h H locs ls h1 => h ⟨fun k => (h1.2.2.1 60 (Nat.le_refl 60) k).trans (E4 60 k), h1.2.2.2.1.trans E2⟩ H locs ls h1) (fun _ => rfl) rfl rfl (fun j g k hj => by
      show (if 60 ≤ j ∧ g = 0 then scn xs j k else 0) = 0
      rw [if_neg (by omega)]) (fun _ _ _ => rfl) ⟨fun k _ => ⟨rfl, rfl⟩, fun k _ => rfl, fun k _ => rfl, fun k _ => rfl⟩
  have hmap : ([aR 60 0] : List AV).map (cv E) = [Value.ref b] := by
    show [Value.ref (adr E 60 0)] = _
    unfold adr
    rw [if_neg (by omega), E3]
  rw [lg_entry_eq]
  have hl := lv_entry ([Value.ref b]) (n := 4) (Nat.le_of_ble_eq_true rfl)
  exact hps s.heap [] _ hR ⟨⟨hl.1, hl.2.1, fun q hq => hl.2.2 q (by have := lvl_mkL (E := E) 4 [aR 60 0] 0 q hq; rw [hmap] at this; exact this)⟩, mkL_len _ _⟩ (fun k v hk => by
    have := mkL_in 4 [aR 60 0] k v hk
    rw [List.mem_singleton] at this
    rw [this]
    exact Or.inr (Or.inl ⟨by omega, by omega, rfl⟩)) (fun v hv => absurd hv List.not_mem_nil) va_S.rf (Nat.le_refl _) (Nat.zero_le _) (Nat.zero_le _) (fun _ => ⟨E1.symm, rfl⟩)
