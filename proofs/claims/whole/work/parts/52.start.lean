/-! the law's start -/
theorem zm_89 : (.classLink RL 7 RX9 : Cond) ∈ zc_T := zc_in 89 (by decide +kernel) (by decide +kernel)
theorem zm_90 : (.instantiable RX9 11 : Cond) ∈ zc_T := zc_in 90 (by decide +kernel) (by decide +kernel)
theorem zm_91 : (.methodLink RL 9 yX9_init : Cond) ∈ zc_T := zc_in 91 (by decide +kernel) (by decide +kernel)
theorem zm_92 : (.instanceMethod yX9_init : Cond) ∈ zc_T := zc_in 92 (by decide +kernel) (by decide +kernel)
theorem zm_1082 : (.classLink RL 10 RX10 : Cond) ∈ zc_T := zc_in 1082 (by decide +kernel) (by decide +kernel)
theorem zm_1083 : (.instantiable RX10 41 : Cond) ∈ zc_T := zc_in 1083 (by decide +kernel) (by decide +kernel)
theorem zm_1084 : (.methodLink RL 12 yX10_init : Cond) ∈ zc_T := zc_in 1084 (by decide +kernel) (by decide +kernel)
theorem zm_1085 : (.instanceMethod yX10_init : Cond) ∈ zc_T := zc_in 1085 (by decide +kernel) (by decide +kernel)
theorem zs_G {p : Program} {s : State} {m : MethodId} {meth : Method} {c : Code} {b L : Nat} {xs : Nat → Int32} (C0 : lw_At p s m meth c b L xs) : ∃ g : zc_G, g.2.2.1.1 = s.heap.size ∧ g.2.2.1.2 = s.heap ∧ zc_K g s := by
  obtain ⟨hx, hb, hr, hml, hown, hts, hX, hbl, hlocks, hgv⟩ := id C0
  have hT : ∀ w ∈ zc_T, w.before #[Value.ref b] s = true := fun w hw => hts w (List.mem_filter.mp hw).1
  have hs := flat_of_before _ hgv
  obtain ⟨c0, s0, k0⟩ := u_known (C := RX0) (T := TX0) (N := 2) (n := 2) hT zk_0.2.1 (hT _ zm_162)
  obtain ⟨c1, s1, k1⟩ := u_known (C := RX1) (T := TX1) (N := 5) (n := 5) hT zk_1.2.1 (hT _ zm_178)
  obtain ⟨c2, s2, k2⟩ := u_known (C := RX2) (T := TX2) (N := 5) (n := 5) hT zk_2.2.1 (hT _ zm_267)
  obtain ⟨c3, s3, k3⟩ := u_known (C := RX3) (T := TX3) (N := 6) (n := 6) hT zk_3.2.1 (hT _ zm_747)
  obtain ⟨c4, s4, k4⟩ := u_known (C := RX4) (T := TX4) (N := 5) (n := 5) hT zk_4.2.1 (hT _ zm_506)
  obtain ⟨c5, s5, k5⟩ := u_known (C := RX5) (T := TX5) (N := 3) (n := 3) hT zk_5.2.1 (hT _ zm_289)
  obtain ⟨c6, s6, k6⟩ := u_known (C := RX6) (T := TX6) (N := 7) (n := 7) hT zk_6.2.1 (hT _ zm_100)
  obtain ⟨c7, s7, k7⟩ := u_known (C := RX7) (T := TX7) (N := 5) (n := 5) hT zk_7.2.1 (hT _ zm_243)
  obtain ⟨c8, s8, k8⟩ := u_known (C := RX8) (T := TX8) (N := 9) (n := 9) hT zk_8.2.1 (hT _ zm_203)
  obtain ⟨c9, s9, k9⟩ := u_known (C := RX9) (T := TX9) (N := 11) (n := 11) hT zk_9.2.1 (hT _ zm_90)
  obtain ⟨c10, s10, k10⟩ := u_known (C := RX10) (T := TX10) (N := 41) (n := 41) hT zk_10.2.1 (hT _ zm_1083)
  obtain ⟨c11, s11, k11⟩ := u_known (C := RJx4a65c) (T := TJx4a65c) (N := 3) (n := 3) hT zk_11.2.1 (hT _ zm_106)
  obtain ⟨aI, dI, mI, fI, gI, eI⟩ := Cond.arrayClass_spec (hT _ zm_175)
  obtain ⟨aJ, dJ, mJ, fJ, gJ, eJ⟩ := Cond.arrayClass_spec (hT _ zm_176)
  obtain ⟨aZ, dZ, mZ, fZ, gZ, eZ⟩ := Cond.arrayClass_spec (hT _ zm_201)
  have oS := hts (.arrayOver (.object "LineRemarks$Shelf")) (by decide +kernel)
  obtain ⟨mS, aS, dS, fS, -, gS, eS, nS⟩ := Cond.arrayOver_spec oS
  have oO := hts (.arrayOver (.object "java/lang/Object")) (by decide +kernel)
  obtain ⟨mO, aO, dO, fO, -, gO, eO, nO⟩ := Cond.arrayOver_spec oO
  have hA : ∀ a : Nat, a < s.heap.size → ¬ (fun q : Nat => s.heap.size ≤ q) a := fun a h => Nat.not_le.mpr h
  obtain ⟨tA, vA, TA⟩ := va_Tof (ty := .int) (N := 7) (f := fun j => .int (zc_abv j)) (A := fun q : Nat => s.heap.size ≤ q) (tm := (.static "LineRemarks" "ABOVE" "[I")) (by decide) (hs (.arrayOf (.static "LineRemarks" "ABOVE" "[I") .int) (by decide +kernel)) (va_eqt (hs (.eq (.length (.static "LineRemarks" "ABOVE" "[I")) (.int 7)) (by decide +kernel))) (fun j hj => by
    match j, hj with
    | 0, _ => exact va_eqt (hs (.eq (.elem (.static "LineRemarks" "ABOVE" "[I") (.int 0)) (.int (-1))) (by decide +kernel))
    | 1, _ => exact va_eqt (hs (.eq (.elem (.static "LineRemarks" "ABOVE" "[I") (.int 1)) (.int 0)) (by decide +kernel))
    | 2, _ => exact va_eqt (hs (.eq (.elem (.static "LineRemarks" "ABOVE" "[I") (.int 2)) (.int 0)) (by decide +kernel))
    | 3, _ => exact va_eqt (hs (.eq (.elem (.static "LineRemarks" "ABOVE" "[I") (.int 3)) (.int 1)) (by decide +kernel))
    | 4, _ => exact va_eqt (hs (.eq (.elem (.static "LineRemarks" "ABOVE" "[I") (.int 4)) (.int 0)) (by decide +kernel))
    | 5, _ => exact va_eqt (hs (.eq (.elem (.static "LineRemarks" "ABOVE" "[I") (.int 5)) (.int 2)) (by decide +kernel))
    | 6, _ => exact va_eqt (hs (.eq (.elem (.static "LineRemarks" "ABOVE" "[I") (.int 6)) (.int 3)) (by decide +kernel))
    | j + 7, hj => omega) hA
  have ZA := va_Zref (A := fun q : Nat => s.heap.size ≤ q) (hts (.laysStatic "LineRemarks" "ABOVE" "[I") (by decide +kernel)) (hts (.initialized "LineRemarks") (by decide +kernel)) vA hA
  obtain ⟨tB, vB, TB⟩ := va_Tof (ty := .int) (N := 21) (f := fun j => .int (zc_bod j)) (A := fun q : Nat => s.heap.size ≤ q) (tm := (.static "LineRemarks$Moves" "BODIES" "[I")) (by decide) (hs (.arrayOf (.static "LineRemarks$Moves" "BODIES" "[I") .int) (by decide +kernel)) (va_eqt (hs (.eq (.length (.static "LineRemarks$Moves" "BODIES" "[I")) (.int 21)) (by decide +kernel))) (fun j hj => by
    match j, hj with
    | 0, _ => exact va_eqt (hs (.eq (.elem (.static "LineRemarks$Moves" "BODIES" "[I") (.int 0)) (.int 10)) (by decide +kernel))
    | 1, _ => exact va_eqt (hs (.eq (.elem (.static "LineRemarks$Moves" "BODIES" "[I") (.int 1)) (.int 11)) (by decide +kernel))
    | 2, _ => exact va_eqt (hs (.eq (.elem (.static "LineRemarks$Moves" "BODIES" "[I") (.int 2)) (.int 12)) (by decide +kernel))
    | 3, _ => exact va_eqt (hs (.eq (.elem (.static "LineRemarks$Moves" "BODIES" "[I") (.int 3)) (.int 20)) (by decide +kernel))
    | 4, _ => exact va_eqt (hs (.eq (.elem (.static "LineRemarks$Moves" "BODIES" "[I") (.int 4)) (.int 0)) (by decide +kernel))
    | 5, _ => exact va_eqt (hs (.eq (.elem (.static "LineRemarks$Moves" "BODIES" "[I") (.int 5)) (.int 0)) (by decide +kernel))
    | 6, _ => exact va_eqt (hs (.eq (.elem (.static "LineRemarks$Moves" "BODIES" "[I") (.int 6)) (.int 0)) (by decide +kernel))
    | 7, _ => exact va_eqt (hs (.eq (.elem (.static "LineRemarks$Moves" "BODIES" "[I") (.int 7)) (.int 30)) (by decide +kernel))
    | 8, _ => exact va_eqt (hs (.eq (.elem (.static "LineRemarks$Moves" "BODIES" "[I") (.int 8)) (.int 0)) (by decide +kernel))
    | 9, _ => exact va_eqt (hs (.eq (.elem (.static "LineRemarks$Moves" "BODIES" "[I") (.int 9)) (.int 40)) (by decide +kernel))
    | 10, _ => exact va_eqt (hs (.eq (.elem (.static "LineRemarks$Moves" "BODIES" "[I") (.int 10)) (.int 0)) (by decide +kernel))
    | 11, _ => exact va_eqt (hs (.eq (.elem (.static "LineRemarks$Moves" "BODIES" "[I") (.int 11)) (.int 0)) (by decide +kernel))
    | 12, _ => exact va_eqt (hs (.eq (.elem (.static "LineRemarks$Moves" "BODIES" "[I") (.int 12)) (.int 51)) (by decide +kernel))
    | 13, _ => exact va_eqt (hs (.eq (.elem (.static "LineRemarks$Moves" "BODIES" "[I") (.int 13)) (.int 0)) (by decide +kernel))
    | 14, _ => exact va_eqt (hs (.eq (.elem (.static "LineRemarks$Moves" "BODIES" "[I") (.int 14)) (.int 50)) (by decide +kernel))
    | 15, _ => exact va_eqt (hs (.eq (.elem (.static "LineRemarks$Moves" "BODIES" "[I") (.int 15)) (.int 0)) (by decide +kernel))
    | 16, _ => exact va_eqt (hs (.eq (.elem (.static "LineRemarks$Moves" "BODIES" "[I") (.int 16)) (.int 0)) (by decide +kernel))
    | 17, _ => exact va_eqt (hs (.eq (.elem (.static "LineRemarks$Moves" "BODIES" "[I") (.int 17)) (.int 60)) (by decide +kernel))
    | 18, _ => exact va_eqt (hs (.eq (.elem (.static "LineRemarks$Moves" "BODIES" "[I") (.int 18)) (.int 70)) (by decide +kernel))
    | 19, _ => exact va_eqt (hs (.eq (.elem (.static "LineRemarks$Moves" "BODIES" "[I") (.int 19)) (.int 71)) (by decide +kernel))
    | 20, _ => exact va_eqt (hs (.eq (.elem (.static "LineRemarks$Moves" "BODIES" "[I") (.int 20)) (.int 0)) (by decide +kernel))
    | j + 21, hj => omega) hA
  have ZB := va_Zref (A := fun q : Nat => s.heap.size ≤ q) (hts (.laysStatic "LineRemarks$Moves" "BODIES" "[I") (by decide +kernel)) (hts (.initialized "LineRemarks$Moves") (by decide +kernel)) vB hA
  obtain ⟨tD, vD, TD⟩ := va_Tof (ty := .object "java/lang/Object") (N := 0) (f := fun _ => .null) (A := fun q : Nat => s.heap.size ≤ q) (tm := (.static "java/util/ArrayList" "DEFAULTCAPACITY_EMPTY_ELEMENTDATA" "[Ljava/lang/Object;")) (by decide) (hs (.arrayOf (.static "java/util/ArrayList" "DEFAULTCAPACITY_EMPTY_ELEMENTDATA" "[Ljava/lang/Object;") (.object "java/lang/Object")) (by decide +kernel)) (va_eqt (hs (.eq (.length (.static "java/util/ArrayList" "DEFAULTCAPACITY_EMPTY_ELEMENTDATA" "[Ljava/lang/Object;")) (.int 0)) (by decide +kernel))) (fun j hj => absurd hj (Nat.not_lt_zero j)) hA
  have ZD := va_Zref (A := fun q : Nat => s.heap.size ≤ q) (hts (.laysStatic "java/util/ArrayList" "DEFAULTCAPACITY_EMPTY_ELEMENTDATA" "[Ljava/lang/Object;") (by decide +kernel)) (hts (.initialized "java/util/ArrayList") (by decide +kernel)) vD hA
  obtain ⟨mi, hmi⟩ := va_Mi.of (hs (.isRef (.mirror "[Ljava/lang/Object;")) (by decide +kernel))
  refine ⟨((fun k => if k = 0 then c0 else if k = 1 then c1 else if k = 2 then c2 else if k = 3 then c3 else if k = 4 then c4 else if k = 5 then c5 else if k = 6 then c6 else if k = 7 then c7 else if k = 8 then c8 else if k = 9 then c9 else if k = 10 then c10 else c11, fun k => if k = 0 then s0 else if k = 1 then s1 else if k = 2 then s2 else if k = 3 then s3 else if k = 4 then s4 else if k = 5 then s5 else if k = 6 then s6 else if k = 7 then s7 else if k = 8 then s8 else if k = 9 then s9 else if k = 10 then s10 else s11), (fun k => if k = 0 then aI else if k = 1 then aJ else if k = 2 then aZ else if k = 3 then aS else aO), (s.heap.size, s.heap), (tA, tB, tD)), rfl, rfl, ⟨⟨?_, ?_⟩, fun w hw => va_Nw.of (zc_onT (List.mem_filter.mp hw).2) (hts w (List.mem_filter.mp hw).1), ZA, TA, ZB, TB, ZD, TD, va_AO.of oS, va_AO.of oO, mi, hmi⟩⟩
  · intro k q hq
    match k, hq with
    | 0, hq => cases hq; exact k0
    | 1, hq => cases hq; exact k1
    | 2, hq => cases hq; exact k2
    | 3, hq => cases hq; exact k3
    | 4, hq => cases hq; exact k4
    | 5, hq => cases hq; exact k5
    | 6, hq => cases hq; exact k6
    | 7, hq => cases hq; exact k7
    | 8, hq => cases hq; exact k8
    | 9, hq => cases hq; exact k9
    | 10, hq => cases hq; exact k10
    | 11, hq => cases hq; exact k11
    | k + 12, hq => simp [zc_cl] at hq
  · intro k q hq
    match k, hq with
    | 0, hq => cases hq; exact ⟨fun N z => ⟨fun k h => (by cases h), dI, gI, mI, eI⟩, fI⟩
    | 1, hq => cases hq; exact ⟨fun N z => ⟨fun k h => (by cases h), dJ, gJ, mJ, eJ⟩, fJ⟩
    | 2, hq => cases hq; exact ⟨fun N z => ⟨fun k h => (by cases h), dZ, gZ, mZ, eZ⟩, fZ⟩
    | 3, hq => cases hq; exact ⟨fun N z => ⟨fun k h => (by cases h), dS, gS, mS, eS⟩, dS, mS, gS, eS, fS, nS⟩
    | 4, hq => cases hq; exact ⟨fun N z => ⟨fun k h => (by cases h), dO, gO, mO, eO⟩, dO, mO, gO, eO, fO, nO⟩
    | k + 5, hq => simp [zc_tys] at hq
/-- what is wanted of the two shallow programs: their starts, and a relation that every operation keeps -/
def zz_Main (z tD : Nat) : Prop := ∃ (Inv : zc_H → Prop) (q : Nat) (r1 r2 : zc_H), zf_X9_init (zf_new (fun _ => none, z, tD) (.inr (9, [.null, .null, .null, .int 0, .null, .int 0, .null, .null, .null, .null, .null]))) z = some r1 ∧ r1.2.1 = q ∧ zf_X10_init (zf_new r1 (.inr (10, [.int 0, .null, .null, .null, .null, .int 0, .null, .null, .int 0, .null, .null, .null, .int 0, .int 0, .null, .null, .int 0, .int 0, .null, .null, .null, .int 0, .null, .null, .int 0, .null, .null, .null, .int 0, .int 0, .null, .int 0, .int 0, .int 0, .int 0, .int 0, .int 0, .null, .int 0, .int 0, .int 0]))) q = some r2 ∧ Inv r2 ∧ zl_op0 Inv z q ∧ zl_op1 Inv z q ∧ zl_op2 Inv z q ∧ zl_op3 Inv z q ∧ zl_op4 Inv z q ∧ zl_op5 Inv z q ∧ zl_op6 Inv z q ∧ zl_op7 Inv z q ∧ zl_op8 Inv z q ∧ zl_op9 Inv z q ∧ zl_op10 Inv z q ∧ zl_op11 Inv z q ∧ zl_op12 Inv z q ∧ zl_op13 Inv z q ∧ zl_op14 Inv z q ∧ zl_op15 Inv z q ∧ zl_op16 Inv z q ∧ zl_op17 Inv z q ∧ zl_op18 Inv z q ∧ zl_op19 Inv z q ∧ zl_op20 Inv z q ∧ zl_op21 Inv z q ∧ zl_op22 Inv z q ∧ zl_op23 Inv z q ∧ zl_op24 Inv z q ∧ zl_op25 Inv z q ∧ zl_op26 Inv z q ∧ zl_op27 Inv z q ∧ zl_op28 Inv z q ∧ zl_op29 Inv z q ∧ zl_op30 Inv z q ∧ zl_op31 Inv z q ∧ zl_op32 Inv z q ∧ zl_op33 Inv z q ∧ zl_op34 Inv z q ∧ zl_op35 Inv z q
set_option maxHeartbeats 4000000 in
set_option maxRecDepth 20000 in
theorem zs_start {p : Program} {e : Env} {s : State} {m : MethodId} {below : List Frame} {meth : Method} {c : Code} (hmain : ∀ z tD : Nat, tD < z → zz_Main z tD) (l : Launch) {b L : Nat} {xs : Nat → Int32} (hL : L ≤ 3584) (C0 : lw_At p s m meth c b L xs) : W p l e room_1 s m #[Value.ref b] below meth c s.heap [] 0 0 (lw_Z below #[Value.ref b] s) (entryFrame m ([Value.ref b] : List Value).toArray 4) := by
  obtain ⟨g, hz, hH, hK⟩ := zs_G C0
  obtain ⟨hx, hb, hr, hml, hown, hts, hX, hbl, hlocks, hgv⟩ := id C0
  have hT : ∀ w ∈ zc_T, w.before #[Value.ref b] s = true := fun w hw => hts w (List.mem_filter.mp hw).1
  have S : CallFix p m c code 4 s #[Value.ref b] (.initialized RL :: zc_T) RL := ⟨hx, hb, hml, hown, fun w hw => by
    rcases List.mem_cons.mp hw with rfl | h
    · exact hts _ (by decide +kernel)
    · exact hT w h⟩
  obtain ⟨Inv, q, r1, r2, e1, hq, e2, hI, hop0, hop1, hop2, hop3, hop4, hop5, hop6, hop7, hop8, hop9, hop10, hop11, hop12, hop13, hop14, hop15, hop16, hop17, hop18, hop19, hop20, hop21, hop22, hop23, hop24, hop25, hop26, hop27, hop28, hop29, hop30, hop31, hop32, hop33, hop34, hop35⟩ := hmain s.heap.size g.2.2.2.2.2 (by obtain ⟨cell, -, -, -, -, -, -, h9⟩ := hK.2.2.2.2.2.2.2.1; rw [← hz]; exact Nat.not_le.mp h9)
  have hw : zc_W g (fun _ => none, s.heap.size, g.2.2.2.2.2) s.heap [] := ⟨rfl, (by rw [hz]; exact Nat.le_refl _), fun q e h => (by cases h), fun q _ => (by rw [hH]), ⟨(by rw [hH, hz]), rfl⟩, fun l h => (by cases h)⟩
  rw [lg_entry_eq]
  have hl := lv_entry ([.ref b]) (n := 4) (Nat.le_of_ble_eq_true rfl)
  generalize (lg_sl ([.ref b]) ++ List.replicate (4 - (lg_sl ([.ref b])).length) Slot.unset).toArray = ls at hl ⊢
  have hl : lv_has ls 4 [(0, va_rf (some b))] := hl
  refine zw_new (ci := 9) (ty := tyX9) (fs := [.null, .null, .null, .int 0, .null, .int 0, .null, .null, .null, .null, .null]) S hK hw zk_9 (fun k hk => tyX9_ok k hk) (by decide) zm_89 zm_90 zm_68 (by show 0 + 1 ≤ (600000 : Nat); omega) (by show 0 + 11 ≤ (7302250 : Nat); omega) zd_L_law_0 (fun H hw => ?_)
  refine lv_dup hx hb zd_L_law_3 rfl ?_
  refine zw_callI (n := 0) (As := []) (rest := [va_rf (some s.heap.size)]) S hK hw (zt_X9_init l g _ s.heap.size r1 e1) rfl zm_91 zm_92 zq_X9_init zm_68 (by decide +kernel) ⟨Nat.le_of_ble_eq_true rfl, Nat.le_of_ble_eq_true rfl⟩ rfl hl.1 rfl (by simp [zv_cat]) zd_L_law_4 ⟨(by show 0 + 1 + (39 : Nat) ≤ (600000 : Nat); omega), (by show 0 + 11 + (2297 : Nat) ≤ (7302250 : Nat); omega)⟩ (fun H locs hw => ?_)
  replace hw : zc_W g r1 H locs := hw
  refine W.widen (k := 0 + 1 + 39) (n := 0 + 11 + 2297) (Nat.le_refl _) (Nat.le_refl _) ?_
  refine zl_astore_n (i := 1) (lv' := [(1, va_rf (some s.heap.size)), (0, va_rf (some b))]) hx hb zd_L_law_7 rfl hl (by decide) rfl (fun ls hl => ?_)
  refine zw_new (ci := 10) (ty := tyX10) (fs := [.int 0, .null, .null, .null, .null, .int 0, .null, .null, .int 0, .null, .null, .null, .int 0, .int 0, .null, .null, .int 0, .int 0, .null, .null, .null, .int 0, .null, .null, .int 0, .null, .null, .null, .int 0, .int 0, .null, .int 0, .int 0, .int 0, .int 0, .int 0, .int 0, .null, .int 0, .int 0, .int 0]) S hK hw zk_10 (fun k hk => tyX10_ok k hk) (by decide) zm_1082 zm_1083 zm_79 (by show 0 + 1 + 39 + 1 ≤ (600000 : Nat); omega) (by show 0 + 11 + 2297 + 41 ≤ (7302250 : Nat); omega) zd_L_law_8 (fun H hw => ?_)
  rw [hq]
  refine lv_dup hx hb zd_L_law_11 rfl ?_
  refine zw_callI (n := 0) (As := []) (rest := [va_rf (some q)]) S hK hw (zt_X10_init l g _ q r2 e2) rfl zm_1084 zm_1085 zq_X10_init zm_79 (by decide +kernel) ⟨Nat.le_of_ble_eq_true rfl, Nat.le_of_ble_eq_true rfl⟩ rfl hl.1 rfl (by simp [zv_cat]) zd_L_law_12 ⟨(by show 0 + 1 + 39 + 1 + (21 : Nat) ≤ (600000 : Nat); omega), (by show 0 + 11 + 2297 + 41 + (3500 : Nat) ≤ (7302250 : Nat); omega)⟩ (fun H locs hw => ?_)
  replace hw : zc_W g r2 H locs := hw
  refine W.widen (k := 0 + 1 + 39 + 1 + 21) (n := 0 + 11 + 2297 + 41 + 3500) (Nat.le_refl _) (Nat.le_refl _) ?_
  refine zl_astore_n (i := 2) (lv' := [(2, va_rf (some q)), (1, va_rf (some s.heap.size)), (0, va_rf (some b))]) hx hb zd_L_law_15 rfl hl (by decide) rfl (fun ls hl => ?_)
  refine lv_iconst (v := 0) hx hb zd_L_law_16 (by decide) ?_
  refine lv_istore_n (i := 3) (lv' := [(3, .int 0), (2, va_rf (some q)), (1, va_rf (some s.heap.size)), (0, va_rf (some b))]) hx hb zd_L_law_17 rfl hl (by decide) rfl (fun ls hl => ?_)
  exact zl_loop l hL g s.heap.size q Inv S hK hX hz hH hbl hr hlocks hop0 hop1 hop2 hop3 hop4 hop5 hop6 hop7 hop8 hop9 hop10 hop11 hop12 hop13 hop14 hop15 hop16 hop17 hop18 hop19 hop20 hop21 hop22 hop23 hop24 hop25 hop26 hop27 hop28 hop29 hop30 hop31 hop32 hop33 hop34 hop35 (L / 7 + 2) 0 0 r2 H locs ls _ _ nI_0.symm (by omega) (by omega) hw hI (lv_sub hl [3, 2, 1, 0] rfl) (by omega) (by omega)
